set_option maxRecDepth 100000 in
theorem mi_X1_rowOf : MSW yX1_rowOf cX1_rowOf 2 (some .int) 2 := ⟨nw_mem 102 rfl rfl, nw_mem 70 rfl rfl, nw_mem 103 rfl rfl, by decide +kernel, by decide +kernel, by decide +kernel⟩
set_option maxRecDepth 100000 in
theorem mi_X3_bids : MIW yX3_bids cX3_bids 1 (some .int) 0 := ⟨nw_mem 222 rfl rfl, nw_mem 223 rfl rfl, nw_mem 69 rfl rfl, nw_mem 224 rfl rfl, by decide +kernel, by decide +kernel, by decide +kernel⟩
set_option maxRecDepth 100000 in
theorem mi_X3_settle : MIW yX3_settle cX3_settle 3 (some .int) 0 := ⟨nw_mem 226 rfl rfl, nw_mem 227 rfl rfl, nw_mem 69 rfl rfl, nw_mem 228 rfl rfl, by decide +kernel, by decide +kernel, by decide +kernel⟩
set_option maxRecDepth 100000 in
theorem mi_X3_isSeatWon : MIW yX3_isSeatWon cX3_isSeatWon 4 (some .boolean) 3 := ⟨nw_mem 231 rfl rfl, nw_mem 0 rfl rfl, nw_mem 69 rfl rfl, nw_mem 232 rfl rfl, by decide +kernel, by decide +kernel, by decide +kernel⟩
set_option maxRecDepth 100000 in
theorem mi_X3_needsOnlySeat : MIW yX3_needsOnlySeat cX3_needsOnlySeat 4 (some .boolean) 3 := ⟨nw_mem 235 rfl rfl, nw_mem 1 rfl rfl, nw_mem 69 rfl rfl, nw_mem 236 rfl rfl, by decide +kernel, by decide +kernel, by decide +kernel⟩
set_option maxRecDepth 100000 in
theorem mi_X3_isClosed : MIW yX3_isClosed cX3_isClosed 2 (some .boolean) 1 := ⟨nw_mem 239 rfl rfl, nw_mem 2 rfl rfl, nw_mem 69 rfl rfl, nw_mem 240 rfl rfl, by decide +kernel, by decide +kernel, by decide +kernel⟩
set_option maxRecDepth 100000 in
theorem mi_X3_mayHaveSeat : MIW yX3_mayHaveSeat cX3_mayHaveSeat 3 (some .boolean) 2 := ⟨nw_mem 243 rfl rfl, nw_mem 3 rfl rfl, nw_mem 69 rfl rfl, nw_mem 244 rfl rfl, by decide +kernel, by decide +kernel, by decide +kernel⟩
set_option maxRecDepth 100000 in
theorem mi_X1_isRightGiven : MIW yX1_isRightGiven cX1_isRightGiven 4 (some .boolean) 2 := ⟨nw_mem 247 rfl rfl, nw_mem 4 rfl rfl, nw_mem 70 rfl rfl, nw_mem 248 rfl rfl, by decide +kernel, by decide +kernel, by decide +kernel⟩
set_option maxRecDepth 100000 in
theorem mi_X1_cellOf : MSW yX1_cellOf cX1_cellOf 2 (some .int) 2 := ⟨nw_mem 250 rfl rfl, nw_mem 70 rfl rfl, nw_mem 251 rfl rfl, by decide +kernel, by decide +kernel, by decide +kernel⟩
set_option maxRecDepth 100000 in
theorem mi_X1_isAgreed : MIW yX1_isAgreed cX1_isAgreed 5 (some .boolean) 2 := ⟨nw_mem 254 rfl rfl, nw_mem 5 rfl rfl, nw_mem 70 rfl rfl, nw_mem 255 rfl rfl, by decide +kernel, by decide +kernel, by decide +kernel⟩
set_option maxRecDepth 100000 in
theorem mi_X1_isResitOpen : MIW yX1_isResitOpen cX1_isResitOpen 5 (some .boolean) 2 := ⟨nw_mem 258 rfl rfl, nw_mem 6 rfl rfl, nw_mem 70 rfl rfl, nw_mem 259 rfl rfl, by decide +kernel, by decide +kernel, by decide +kernel⟩
set_option maxRecDepth 100000 in
theorem mi_X1_valueByOwner : MIW yX1_valueByOwner cX1_valueByOwner 4 (some .int) 3 := ⟨nw_mem 262 rfl rfl, nw_mem 7 rfl rfl, nw_mem 70 rfl rfl, nw_mem 263 rfl rfl, by decide +kernel, by decide +kernel, by decide +kernel⟩
set_option maxRecDepth 100000 in
theorem mi_X1_valueIn : MIW yX1_valueIn cX1_valueIn 5 (some .int) 4 := ⟨nw_mem 266 rfl rfl, nw_mem 8 rfl rfl, nw_mem 70 rfl rfl, nw_mem 267 rfl rfl, by decide +kernel, by decide +kernel, by decide +kernel⟩
set_option maxRecDepth 100000 in
theorem mi_X3_offerHeldFor : MIW yX3_offerHeldFor cX3_offerHeldFor 5 (some .int) 3 := ⟨nw_mem 270 rfl rfl, nw_mem 9 rfl rfl, nw_mem 69 rfl rfl, nw_mem 271 rfl rfl, by decide +kernel, by decide +kernel, by decide +kernel⟩
set_option maxRecDepth 100000 in
theorem mi_X0_isOf : MIW yX0_isOf cX0_isOf 3 (some .boolean) 2 := ⟨nw_mem 274 rfl rfl, nw_mem 10 rfl rfl, nw_mem 72 rfl rfl, nw_mem 275 rfl rfl, by decide +kernel, by decide +kernel, by decide +kernel⟩
set_option maxRecDepth 100000 in
theorem mi_X0_hasSeated : MIW yX0_hasSeated cX0_hasSeated 2 (some .boolean) 1 := ⟨nw_mem 278 rfl rfl, nw_mem 11 rfl rfl, nw_mem 72 rfl rfl, nw_mem 279 rfl rfl, by decide +kernel, by decide +kernel, by decide +kernel⟩
set_option maxRecDepth 100000 in
theorem mi_X3_offerHeldAt : MIW yX3_offerHeldAt cX3_offerHeldAt 4 (some .int) 2 := ⟨nw_mem 282 rfl rfl, nw_mem 12 rfl rfl, nw_mem 69 rfl rfl, nw_mem 283 rfl rfl, by decide +kernel, by decide +kernel, by decide +kernel⟩
set_option maxRecDepth 100000 in
theorem mi_X0_isFull : MIW yX0_isFull cX0_isFull 1 (some .boolean) 0 := ⟨nw_mem 286 rfl rfl, nw_mem 13 rfl rfl, nw_mem 72 rfl rfl, nw_mem 287 rfl rfl, by decide +kernel, by decide +kernel, by decide +kernel⟩
set_option maxRecDepth 100000 in
theorem mi_X0_countTaken : MIW yX0_countTaken cX0_countTaken 3 (some .int) 0 := ⟨nw_mem 290 rfl rfl, nw_mem 14 rfl rfl, nw_mem 72 rfl rfl, nw_mem 291 rfl rfl, by decide +kernel, by decide +kernel, by decide +kernel⟩
set_option maxRecDepth 100000 in
theorem mi_X0_letWait : MIW yX0_letWait cX0_letWait 3 none 2 := ⟨nw_mem 295 rfl rfl, nw_mem 15 rfl rfl, nw_mem 72 rfl rfl, nw_mem 296 rfl rfl, by decide +kernel, by decide +kernel, by decide +kernel⟩
set_option maxRecDepth 100000 in
theorem mi_X0_placeInQueue : MIW yX0_placeInQueue cX0_placeInQueue 3 (some .int) 1 := ⟨nw_mem 299 rfl rfl, nw_mem 16 rfl rfl, nw_mem 72 rfl rfl, nw_mem 300 rfl rfl, by decide +kernel, by decide +kernel, by decide +kernel⟩
set_option maxRecDepth 100000 in
theorem mi_X3_giveSeat : MIW yX3_giveSeat cX3_giveSeat 5 none 3 := ⟨nw_mem 303 rfl rfl, nw_mem 17 rfl rfl, nw_mem 69 rfl rfl, nw_mem 304 rfl rfl, by decide +kernel, by decide +kernel, by decide +kernel⟩
set_option maxRecDepth 100000 in
theorem mi_X0_letWaitNoMore : MIW yX0_letWaitNoMore cX0_letWaitNoMore 4 none 1 := ⟨nw_mem 307 rfl rfl, nw_mem 18 rfl rfl, nw_mem 72 rfl rfl, nw_mem 308 rfl rfl, by decide +kernel, by decide +kernel, by decide +kernel⟩
set_option maxRecDepth 100000 in
theorem mi_X3_rounds : MIW yX3_rounds cX3_rounds 1 (some .int) 0 := ⟨nw_mem 310 rfl rfl, nw_mem 311 rfl rfl, nw_mem 69 rfl rfl, nw_mem 312 rfl rfl, by decide +kernel, by decide +kernel, by decide +kernel⟩
set_option maxRecDepth 100000 in
theorem mi_X3_refunds : MIW yX3_refunds cX3_refunds 1 (some .int) 0 := ⟨nw_mem 314 rfl rfl, nw_mem 315 rfl rfl, nw_mem 69 rfl rfl, nw_mem 316 rfl rfl, by decide +kernel, by decide +kernel, by decide +kernel⟩
set_option maxRecDepth 100000 in
theorem mi_X3_isTrue : MIW yX3_isTrue cX3_isTrue 2 (some .boolean) 0 := ⟨nw_mem 318 rfl rfl, nw_mem 319 rfl rfl, nw_mem 69 rfl rfl, nw_mem 320 rfl rfl, by decide +kernel, by decide +kernel, by decide +kernel⟩
set_option maxRecDepth 100000 in
theorem mi_X3_hasSeatsThatClash : MIW yX3_hasSeatsThatClash cX3_hasSeatsThatClash 7 (some .boolean) 1 := ⟨nw_mem 323 rfl rfl, nw_mem 19 rfl rfl, nw_mem 69 rfl rfl, nw_mem 324 rfl rfl, by decide +kernel, by decide +kernel, by decide +kernel⟩
set_option maxRecDepth 100000 in
theorem mi_X3_arePointsWhole : MIW yX3_arePointsWhole cX3_arePointsWhole 4 (some .boolean) 1 := ⟨nw_mem 327 rfl rfl, nw_mem 20 rfl rfl, nw_mem 69 rfl rfl, nw_mem 328 rfl rfl, by decide +kernel, by decide +kernel, by decide +kernel⟩
set_option maxRecDepth 100000 in
theorem mi_X0_hasSeatedWaiter : MIW yX0_hasSeatedWaiter cX0_hasSeatedWaiter 2 (some .boolean) 0 := ⟨nw_mem 332 rfl rfl, nw_mem 21 rfl rfl, nw_mem 72 rfl rfl, nw_mem 333 rfl rfl, by decide +kernel, by decide +kernel, by decide +kernel⟩
set_option maxRecDepth 100000 in
theorem mi_X3_isRoomShared : MIW yX3_isRoomShared cX3_isRoomShared 3 (some .boolean) 1 := ⟨nw_mem 336 rfl rfl, nw_mem 22 rfl rfl, nw_mem 69 rfl rfl, nw_mem 337 rfl rfl, by decide +kernel, by decide +kernel, by decide +kernel⟩
set_option maxRecDepth 100000 in
theorem mi_X3_room : MIW yX3_room cX3_room 2 (some .int) 1 := ⟨nw_mem 344 rfl rfl, nw_mem 345 rfl rfl, nw_mem 69 rfl rfl, nw_mem 346 rfl rfl, by decide +kernel, by decide +kernel, by decide +kernel⟩
set_option maxRecDepth 100000 in
theorem mi_X3_exam : MIW yX3_exam cX3_exam 1 (some .int) 0 := ⟨nw_mem 439 rfl rfl, nw_mem 440 rfl rfl, nw_mem 69 rfl rfl, nw_mem 441 rfl rfl, by decide +kernel, by decide +kernel, by decide +kernel⟩
set_option maxRecDepth 100000 in
theorem mi_X3_pupil : MIW yX3_pupil cX3_pupil 1 (some .int) 0 := ⟨nw_mem 447 rfl rfl, nw_mem 448 rfl rfl, nw_mem 69 rfl rfl, nw_mem 449 rfl rfl, by decide +kernel, by decide +kernel, by decide +kernel⟩
set_option maxRecDepth 100000 in
theorem mi_X3_offer : MIW yX3_offer cX3_offer 5 (some .int) 4 := ⟨nw_mem 480 rfl rfl, nw_mem 481 rfl rfl, nw_mem 69 rfl rfl, nw_mem 482 rfl rfl, by decide +kernel, by decide +kernel, by decide +kernel⟩
set_option maxRecDepth 100000 in
theorem mi_X3_needExam : MIW yX3_needExam cX3_needExam 2 none 1 := ⟨nw_mem 485 rfl rfl, nw_mem 24 rfl rfl, nw_mem 69 rfl rfl, nw_mem 486 rfl rfl, by decide +kernel, by decide +kernel, by decide +kernel⟩
set_option maxRecDepth 100000 in
theorem mi_X3_needSlot : MSW yX3_needSlot cX3_needSlot 1 none 1 := ⟨nw_mem 502 rfl rfl, nw_mem 69 rfl rfl, nw_mem 503 rfl rfl, by decide +kernel, by decide +kernel, by decide +kernel⟩
set_option maxRecDepth 100000 in
theorem mi_X3_isRoomTaken : MIW yX3_isRoomTaken cX3_isRoomTaken 4 (some .boolean) 2 := ⟨nw_mem 507 rfl rfl, nw_mem 25 rfl rfl, nw_mem 69 rfl rfl, nw_mem 508 rfl rfl, by decide +kernel, by decide +kernel, by decide +kernel⟩
set_option maxRecDepth 100000 in
theorem mi_X0_open : MIW yX0_open cX0_open 6 none 5 := ⟨nw_mem 528 rfl rfl, nw_mem 26 rfl rfl, nw_mem 72 rfl rfl, nw_mem 529 rfl rfl, by decide +kernel, by decide +kernel, by decide +kernel⟩
set_option maxRecDepth 100000 in
theorem mi_X3_bid : MIW yX3_bid cX3_bid 6 (some .int) 3 := ⟨nw_mem 534 rfl rfl, nw_mem 535 rfl rfl, nw_mem 69 rfl rfl, nw_mem 536 rfl rfl, by decide +kernel, by decide +kernel, by decide +kernel⟩
set_option maxRecDepth 100000 in
theorem mi_X3_needPupil : MIW yX3_needPupil cX3_needPupil 2 none 1 := ⟨nw_mem 539 rfl rfl, nw_mem 27 rfl rfl, nw_mem 69 rfl rfl, nw_mem 540 rfl rfl, by decide +kernel, by decide +kernel, by decide +kernel⟩
set_option maxRecDepth 100000 in
theorem mi_X3_offerNumbered : MIW yX3_offerNumbered cX3_offerNumbered 2 (some (.object "Classfederation$Offer")) 1 := ⟨nw_mem 544 rfl rfl, nw_mem 28 rfl rfl, nw_mem 69 rfl rfl, nw_mem 545 rfl rfl, by decide +kernel, by decide +kernel, by decide +kernel⟩
set_option maxRecDepth 100000 in
theorem mi_X3_needOffer : MIW yX3_needOffer cX3_needOffer 2 none 1 := ⟨nw_mem 548 rfl rfl, nw_mem 29 rfl rfl, nw_mem 69 rfl rfl, nw_mem 549 rfl rfl, by decide +kernel, by decide +kernel, by decide +kernel⟩
set_option maxRecDepth 100000 in
theorem mi_X2_sumOf : MIW yX2_sumOf cX2_sumOf 4 (some .int) 1 := ⟨nw_mem 554 rfl rfl, nw_mem 30 rfl rfl, nw_mem 71 rfl rfl, nw_mem 555 rfl rfl, by decide +kernel, by decide +kernel, by decide +kernel⟩
set_option maxRecDepth 100000 in
theorem mi_X2_pointsBid : MIW yX2_pointsBid cX2_pointsBid 4 (some .int) 2 := ⟨nw_mem 558 rfl rfl, nw_mem 31 rfl rfl, nw_mem 71 rfl rfl, nw_mem 559 rfl rfl, by decide +kernel, by decide +kernel, by decide +kernel⟩
set_option maxRecDepth 100000 in
theorem mi_X2_placeOf : MIW yX2_placeOf cX2_placeOf 4 (some .int) 2 := ⟨nw_mem 562 rfl rfl, nw_mem 32 rfl rfl, nw_mem 71 rfl rfl, nw_mem 563 rfl rfl, by decide +kernel, by decide +kernel, by decide +kernel⟩
set_option maxRecDepth 100000 in
theorem mi_X2_takeOut : MIW yX2_takeOut cX2_takeOut 5 none 2 := ⟨nw_mem 567 rfl rfl, nw_mem 33 rfl rfl, nw_mem 71 rfl rfl, nw_mem 568 rfl rfl, by decide +kernel, by decide +kernel, by decide +kernel⟩
set_option maxRecDepth 100000 in
theorem mi_X2_tell : MIW yX2_tell cX2_tell 5 none 3 := ⟨nw_mem 571 rfl rfl, nw_mem 34 rfl rfl, nw_mem 71 rfl rfl, nw_mem 572 rfl rfl, by decide +kernel, by decide +kernel, by decide +kernel⟩
set_option maxRecDepth 100000 in
theorem mi_X3_unbid : MIW yX3_unbid cX3_unbid 4 (some .int) 2 := ⟨nw_mem 578 rfl rfl, nw_mem 579 rfl rfl, nw_mem 69 rfl rfl, nw_mem 580 rfl rfl, by decide +kernel, by decide +kernel, by decide +kernel⟩
set_option maxRecDepth 100000 in
theorem mi_X3_points : MIW yX3_points cX3_points 2 (some .int) 1 := ⟨nw_mem 601 rfl rfl, nw_mem 602 rfl rfl, nw_mem 69 rfl rfl, nw_mem 603 rfl rfl, by decide +kernel, by decide +kernel, by decide +kernel⟩
set_option maxRecDepth 100000 in
theorem mi_X3_seat : MIW yX3_seat cX3_seat 5 (some .int) 3 := ⟨nw_mem 608 rfl rfl, nw_mem 609 rfl rfl, nw_mem 69 rfl rfl, nw_mem 610 rfl rfl, by decide +kernel, by decide +kernel, by decide +kernel⟩
set_option maxRecDepth 100000 in
theorem mi_X3_at : MIW yX3_at cX3_at 3 (some .int) 2 := ⟨nw_mem 616 rfl rfl, nw_mem 617 rfl rfl, nw_mem 69 rfl rfl, nw_mem 618 rfl rfl, by decide +kernel, by decide +kernel, by decide +kernel⟩
set_option maxRecDepth 100000 in
theorem mi_X3_examHeldAt : MIW yX3_examHeldAt cX3_examHeldAt 4 (some .int) 2 := ⟨nw_mem 621 rfl rfl, nw_mem 35 rfl rfl, nw_mem 69 rfl rfl, nw_mem 622 rfl rfl, by decide +kernel, by decide +kernel, by decide +kernel⟩
set_option maxRecDepth 100000 in
theorem mi_X3_holders : MIW yX3_holders cX3_holders 2 (some .int) 1 := ⟨nw_mem 628 rfl rfl, nw_mem 629 rfl rfl, nw_mem 69 rfl rfl, nw_mem 630 rfl rfl, by decide +kernel, by decide +kernel, by decide +kernel⟩
set_option maxRecDepth 100000 in
theorem mi_X3_holder : MIW yX3_holder cX3_holder 4 (some .int) 2 := ⟨nw_mem 635 rfl rfl, nw_mem 636 rfl rfl, nw_mem 69 rfl rfl, nw_mem 637 rfl rfl, by decide +kernel, by decide +kernel, by decide +kernel⟩
set_option maxRecDepth 100000 in
theorem mi_X0_pupilSeated : MIW yX0_pupilSeated cX0_pupilSeated 4 (some .int) 1 := ⟨nw_mem 640 rfl rfl, nw_mem 36 rfl rfl, nw_mem 72 rfl rfl, nw_mem 641 rfl rfl, by decide +kernel, by decide +kernel, by decide +kernel⟩
set_option maxRecDepth 100000 in
theorem mi_X3_paid : MIW yX3_paid cX3_paid 4 (some .int) 2 := ⟨nw_mem 647 rfl rfl, nw_mem 648 rfl rfl, nw_mem 69 rfl rfl, nw_mem 649 rfl rfl, by decide +kernel, by decide +kernel, by decide +kernel⟩
set_option maxRecDepth 100000 in
theorem mi_X3_waiting : MIW yX3_waiting cX3_waiting 2 (some .int) 1 := ⟨nw_mem 655 rfl rfl, nw_mem 656 rfl rfl, nw_mem 69 rfl rfl, nw_mem 657 rfl rfl, by decide +kernel, by decide +kernel, by decide +kernel⟩
set_option maxRecDepth 100000 in
theorem mi_X3_waiter : MIW yX3_waiter cX3_waiter 4 (some .int) 2 := ⟨nw_mem 662 rfl rfl, nw_mem 663 rfl rfl, nw_mem 69 rfl rfl, nw_mem 664 rfl rfl, by decide +kernel, by decide +kernel, by decide +kernel⟩
set_option maxRecDepth 100000 in
theorem mi_X3_giveUp : MIW yX3_giveUp cX3_giveUp 6 (some .int) 2 := ⟨nw_mem 670 rfl rfl, nw_mem 671 rfl rfl, nw_mem 69 rfl rfl, nw_mem 672 rfl rfl, by decide +kernel, by decide +kernel, by decide +kernel⟩
set_option maxRecDepth 100000 in
theorem mi_X0_unseat : MIW yX0_unseat cX0_unseat 3 (some .int) 1 := ⟨nw_mem 676 rfl rfl, nw_mem 37 rfl rfl, nw_mem 72 rfl rfl, nw_mem 677 rfl rfl, by decide +kernel, by decide +kernel, by decide +kernel⟩
set_option maxRecDepth 100000 in
theorem mi_X3_payBack : MIW yX3_payBack cX3_payBack 3 none 2 := ⟨nw_mem 680 rfl rfl, nw_mem 38 rfl rfl, nw_mem 69 rfl rfl, nw_mem 681 rfl rfl, by decide +kernel, by decide +kernel, by decide +kernel⟩
set_option maxRecDepth 100000 in
theorem mi_X3_moveOneUp : MIW yX3_moveOneUp cX3_moveOneUp 5 (some .int) 1 := ⟨nw_mem 684 rfl rfl, nw_mem 39 rfl rfl, nw_mem 69 rfl rfl, nw_mem 685 rfl rfl, by decide +kernel, by decide +kernel, by decide +kernel⟩
set_option maxRecDepth 100000 in
theorem mi_X3_move : MIW yX3_move cX3_move 6 (some .int) 2 := ⟨nw_mem 690 rfl rfl, nw_mem 691 rfl rfl, nw_mem 69 rfl rfl, nw_mem 692 rfl rfl, by decide +kernel, by decide +kernel, by decide +kernel⟩
set_option maxRecDepth 100000 in
theorem mi_X3_isSeatLostByMove : MIW yX3_isSeatLostByMove cX3_isSeatLostByMove 5 (some .boolean) 3 := ⟨nw_mem 696 rfl rfl, nw_mem 40 rfl rfl, nw_mem 69 rfl rfl, nw_mem 697 rfl rfl, by decide +kernel, by decide +kernel, by decide +kernel⟩
set_option maxRecDepth 100000 in
theorem mi_X3_slotOf : MIW yX3_slotOf cX3_slotOf 2 (some .int) 1 := ⟨nw_mem 702 rfl rfl, nw_mem 703 rfl rfl, nw_mem 69 rfl rfl, nw_mem 704 rfl rfl, by decide +kernel, by decide +kernel, by decide +kernel⟩
set_option maxRecDepth 100000 in
theorem mi_X3_write : MIW yX3_write cX3_write 8 (some .int) 5 := ⟨nw_mem 709 rfl rfl, nw_mem 710 rfl rfl, nw_mem 69 rfl rfl, nw_mem 711 rfl rfl, by decide +kernel, by decide +kernel, by decide +kernel⟩
set_option maxRecDepth 100000 in
theorem mi_X3_needStore : MSW yX3_needStore cX3_needStore 1 none 1 := ⟨nw_mem 713 rfl rfl, nw_mem 69 rfl rfl, nw_mem 714 rfl rfl, by decide +kernel, by decide +kernel, by decide +kernel⟩
set_option maxRecDepth 100000 in
theorem mi_X3_fieldNumbered : MSW yX3_fieldNumbered cX3_fieldNumbered 1 (some .int) 1 := ⟨nw_mem 717 rfl rfl, nw_mem 69 rfl rfl, nw_mem 718 rfl rfl, by decide +kernel, by decide +kernel, by decide +kernel⟩
set_option maxRecDepth 100000 in
theorem mi_X1_isInRange : MSW yX1_isInRange cX1_isInRange 2 (some .boolean) 2 := ⟨nw_mem 721 rfl rfl, nw_mem 70 rfl rfl, nw_mem 722 rfl rfl, by decide +kernel, by decide +kernel, by decide +kernel⟩
set_option maxRecDepth 100000 in
theorem mi_X1_put : MIW yX1_put cX1_put 6 none 5 := ⟨nw_mem 727 rfl rfl, nw_mem 41 rfl rfl, nw_mem 70 rfl rfl, nw_mem 728 rfl rfl, by decide +kernel, by decide +kernel, by decide +kernel⟩
set_option maxRecDepth 100000 in
theorem mi_X3_read : MIW yX3_read cX3_read 5 (some .int) 4 := ⟨nw_mem 733 rfl rfl, nw_mem 734 rfl rfl, nw_mem 69 rfl rfl, nw_mem 735 rfl rfl, by decide +kernel, by decide +kernel, by decide +kernel⟩
set_option maxRecDepth 100000 in
theorem mi_X3_sync : MIW yX3_sync cX3_sync 3 (some .int) 2 := ⟨nw_mem 740 rfl rfl, nw_mem 741 rfl rfl, nw_mem 69 rfl rfl, nw_mem 742 rfl rfl, by decide +kernel, by decide +kernel, by decide +kernel⟩
set_option maxRecDepth 100000 in
theorem mi_X1_copyOwned : MIW yX1_copyOwned cX1_copyOwned 5 (some .int) 2 := ⟨nw_mem 746 rfl rfl, nw_mem 42 rfl rfl, nw_mem 70 rfl rfl, nw_mem 747 rfl rfl, by decide +kernel, by decide +kernel, by decide +kernel⟩
set_option maxRecDepth 100000 in
theorem mi_X1_copyRow : MSW yX1_copyRow cX1_copyRow 4 (some .int) 2 := ⟨nw_mem 749 rfl rfl, nw_mem 70 rfl rfl, nw_mem 750 rfl rfl, by decide +kernel, by decide +kernel, by decide +kernel⟩
set_option maxRecDepth 100000 in
theorem mi_X3_owner : MIW yX3_owner cX3_owner 2 (some .int) 1 := ⟨nw_mem 755 rfl rfl, nw_mem 756 rfl rfl, nw_mem 69 rfl rfl, nw_mem 757 rfl rfl, by decide +kernel, by decide +kernel, by decide +kernel⟩
set_option maxRecDepth 100000 in
theorem mi_X3_setOwner : MIW yX3_setOwner cX3_setOwner 5 (some .int) 2 := ⟨nw_mem 762 rfl rfl, nw_mem 763 rfl rfl, nw_mem 69 rfl rfl, nw_mem 764 rfl rfl, by decide +kernel, by decide +kernel, by decide +kernel⟩
set_option maxRecDepth 100000 in
theorem mi_X1_areSame : MIW yX1_areSame cX1_areSame 5 (some .boolean) 3 := ⟨nw_mem 767 rfl rfl, nw_mem 43 rfl rfl, nw_mem 70 rfl rfl, nw_mem 768 rfl rfl, by decide +kernel, by decide +kernel, by decide +kernel⟩
set_option maxRecDepth 100000 in
theorem mi_X3_apart : MIW yX3_apart cX3_apart 2 (some .int) 1 := ⟨nw_mem 774 rfl rfl, nw_mem 775 rfl rfl, nw_mem 69 rfl rfl, nw_mem 776 rfl rfl, by decide +kernel, by decide +kernel, by decide +kernel⟩
set_option maxRecDepth 100000 in
theorem mi_X1_countApart : MIW yX1_countApart cX1_countApart 4 (some .int) 1 := ⟨nw_mem 779 rfl rfl, nw_mem 44 rfl rfl, nw_mem 70 rfl rfl, nw_mem 780 rfl rfl, by decide +kernel, by decide +kernel, by decide +kernel⟩
set_option maxRecDepth 100000 in
theorem mi_X3_maySit : MIW yX3_maySit cX3_maySit 3 (some .boolean) 2 := ⟨nw_mem 785 rfl rfl, nw_mem 786 rfl rfl, nw_mem 69 rfl rfl, nw_mem 787 rfl rfl, by decide +kernel, by decide +kernel, by decide +kernel⟩
set_option maxRecDepth 100000 in
theorem mi_X3_isOpen : MIW yX3_isOpen cX3_isOpen 3 (some .boolean) 2 := ⟨nw_mem 792 rfl rfl, nw_mem 793 rfl rfl, nw_mem 69 rfl rfl, nw_mem 794 rfl rfl, by decide +kernel, by decide +kernel, by decide +kernel⟩
set_option maxRecDepth 100000 in
theorem mi_X3_sit : MIW yX3_sit cX3_sit 4 (some .int) 1 := ⟨nw_mem 799 rfl rfl, nw_mem 800 rfl rfl, nw_mem 69 rfl rfl, nw_mem 801 rfl rfl, by decide +kernel, by decide +kernel, by decide +kernel⟩
set_option maxRecDepth 100000 in
theorem mi_X3_letSit : MIW yX3_letSit cX3_letSit 4 (some .int) 1 := ⟨nw_mem 805 rfl rfl, nw_mem 45 rfl rfl, nw_mem 69 rfl rfl, nw_mem 806 rfl rfl, by decide +kernel, by decide +kernel, by decide +kernel⟩
set_option maxRecDepth 100000 in
theorem mi_X3_hasSat : MIW yX3_hasSat cX3_hasSat 5 (some .boolean) 3 := ⟨nw_mem 811 rfl rfl, nw_mem 812 rfl rfl, nw_mem 69 rfl rfl, nw_mem 813 rfl rfl, by decide +kernel, by decide +kernel, by decide +kernel⟩
set_option maxRecDepth 100000 in
theorem mi_X3_more : MIW yX3_more cX3_more 3 (some .int) 2 := ⟨nw_mem 818 rfl rfl, nw_mem 819 rfl rfl, nw_mem 69 rfl rfl, nw_mem 820 rfl rfl, by decide +kernel, by decide +kernel, by decide +kernel⟩
set_option maxRecDepth 100000 in
theorem mi_X3_takenShare : MIW yX3_takenShare cX3_takenShare 4 (some .float) 0 := ⟨nw_mem 839 rfl rfl, nw_mem 840 rfl rfl, nw_mem 69 rfl rfl, nw_mem 841 rfl rfl, by decide +kernel, by decide +kernel, by decide +kernel⟩
set_option maxRecDepth 100000 in
theorem mi_X3_meanPoints : MIW yX3_meanPoints cX3_meanPoints 3 (some .double) 0 := ⟨nw_mem 849 rfl rfl, nw_mem 850 rfl rfl, nw_mem 69 rfl rfl, nw_mem 851 rfl rfl, by decide +kernel, by decide +kernel, by decide +kernel⟩
set_option maxRecDepth 100000 in
theorem mi_X4_thrown : MIW yX4_thrown cX4_thrown 1 (some .int) 0 := ⟨nw_mem 933 rfl rfl, nw_mem 934 rfl rfl, nw_mem 73 rfl rfl, nw_mem 935 rfl rfl, by decide +kernel, by decide +kernel, by decide +kernel⟩
set_option maxRecDepth 100000 in
theorem mi_X4_room : MIW yX4_room cX4_room 2 (some .int) 1 := ⟨nw_mem 937 rfl rfl, nw_mem 938 rfl rfl, nw_mem 73 rfl rfl, nw_mem 939 rfl rfl, by decide +kernel, by decide +kernel, by decide +kernel⟩
set_option maxRecDepth 100000 in
theorem mi_X4_in : MSW yX4_in cX4_in 3 (some .boolean) 3 := ⟨nw_mem 941 rfl rfl, nw_mem 73 rfl rfl, nw_mem 942 rfl rfl, by decide +kernel, by decide +kernel, by decide +kernel⟩
set_option maxRecDepth 100000 in
theorem mi_X4_exam : MIW yX4_exam cX4_exam 1 (some .int) 0 := ⟨nw_mem 944 rfl rfl, nw_mem 945 rfl rfl, nw_mem 73 rfl rfl, nw_mem 946 rfl rfl, by decide +kernel, by decide +kernel, by decide +kernel⟩
set_option maxRecDepth 100000 in
theorem mi_X4_pupil : MIW yX4_pupil cX4_pupil 1 (some .int) 0 := ⟨nw_mem 948 rfl rfl, nw_mem 949 rfl rfl, nw_mem 73 rfl rfl, nw_mem 950 rfl rfl, by decide +kernel, by decide +kernel, by decide +kernel⟩
set_option maxRecDepth 100000 in
theorem mi_X4_offer : MIW yX4_offer cX4_offer 5 (some .int) 4 := ⟨nw_mem 952 rfl rfl, nw_mem 953 rfl rfl, nw_mem 73 rfl rfl, nw_mem 954 rfl rfl, by decide +kernel, by decide +kernel, by decide +kernel⟩
set_option maxRecDepth 100000 in
theorem mi_X4_isExam : MIW yX4_isExam cX4_isExam 2 (some .boolean) 1 := ⟨nw_mem 957 rfl rfl, nw_mem 46 rfl rfl, nw_mem 73 rfl rfl, nw_mem 958 rfl rfl, by decide +kernel, by decide +kernel, by decide +kernel⟩
set_option maxRecDepth 100000 in
theorem mi_X4_isSlot : MSW yX4_isSlot cX4_isSlot 1 (some .boolean) 1 := ⟨nw_mem 960 rfl rfl, nw_mem 73 rfl rfl, nw_mem 961 rfl rfl, by decide +kernel, by decide +kernel, by decide +kernel⟩
set_option maxRecDepth 100000 in
theorem mi_X4_isTaken : MIW yX4_isTaken cX4_isTaken 5 (some .boolean) 2 := ⟨nw_mem 964 rfl rfl, nw_mem 47 rfl rfl, nw_mem 73 rfl rfl, nw_mem 965 rfl rfl, by decide +kernel, by decide +kernel, by decide +kernel⟩
set_option maxRecDepth 100000 in
theorem mi_X4_bid : MIW yX4_bid cX4_bid 6 (some .int) 3 := ⟨nw_mem 967 rfl rfl, nw_mem 968 rfl rfl, nw_mem 73 rfl rfl, nw_mem 969 rfl rfl, by decide +kernel, by decide +kernel, by decide +kernel⟩
set_option maxRecDepth 100000 in
theorem mi_X4_isPupil : MIW yX4_isPupil cX4_isPupil 2 (some .boolean) 1 := ⟨nw_mem 972 rfl rfl, nw_mem 48 rfl rfl, nw_mem 73 rfl rfl, nw_mem 973 rfl rfl, by decide +kernel, by decide +kernel, by decide +kernel⟩
set_option maxRecDepth 100000 in
theorem mi_X4_isOffer : MIW yX4_isOffer cX4_isOffer 2 (some .boolean) 1 := ⟨nw_mem 976 rfl rfl, nw_mem 49 rfl rfl, nw_mem 73 rfl rfl, nw_mem 977 rfl rfl, by decide +kernel, by decide +kernel, by decide +kernel⟩
set_option maxRecDepth 100000 in
theorem mi_X4_pair : MSW yX4_pair cX4_pair 2 (some .int) 2 := ⟨nw_mem 979 rfl rfl, nw_mem 73 rfl rfl, nw_mem 980 rfl rfl, by decide +kernel, by decide +kernel, by decide +kernel⟩
set_option maxRecDepth 100000 in
theorem mi_X4_unbid : MIW yX4_unbid cX4_unbid 4 (some .int) 2 := ⟨nw_mem 982 rfl rfl, nw_mem 983 rfl rfl, nw_mem 73 rfl rfl, nw_mem 984 rfl rfl, by decide +kernel, by decide +kernel, by decide +kernel⟩
set_option maxRecDepth 100000 in
theorem mi_X4_bids : MIW yX4_bids cX4_bids 3 (some .int) 0 := ⟨nw_mem 986 rfl rfl, nw_mem 987 rfl rfl, nw_mem 73 rfl rfl, nw_mem 988 rfl rfl, by decide +kernel, by decide +kernel, by decide +kernel⟩
set_option maxRecDepth 100000 in
theorem mi_X4_settle : MIW yX4_settle cX4_settle 6 (some .int) 0 := ⟨nw_mem 990 rfl rfl, nw_mem 991 rfl rfl, nw_mem 73 rfl rfl, nw_mem 992 rfl rfl, by decide +kernel, by decide +kernel, by decide +kernel⟩
set_option maxRecDepth 100000 in
theorem mi_X4_nextBid : MIW yX4_nextBid cX4_nextBid 4 (some .int) 0 := ⟨nw_mem 995 rfl rfl, nw_mem 50 rfl rfl, nw_mem 73 rfl rfl, nw_mem 996 rfl rfl, by decide +kernel, by decide +kernel, by decide +kernel⟩
set_option maxRecDepth 100000 in
theorem mi_X4_does : MIW yX4_does cX4_does 4 (some .boolean) 3 := ⟨nw_mem 999 rfl rfl, nw_mem 51 rfl rfl, nw_mem 73 rfl rfl, nw_mem 1000 rfl rfl, by decide +kernel, by decide +kernel, by decide +kernel⟩
set_option maxRecDepth 100000 in
theorem mi_X4_can : MIW yX4_can cX4_can 4 (some .boolean) 2 := ⟨nw_mem 1003 rfl rfl, nw_mem 52 rfl rfl, nw_mem 73 rfl rfl, nw_mem 1004 rfl rfl, by decide +kernel, by decide +kernel, by decide +kernel⟩
set_option maxRecDepth 100000 in
theorem mi_X4_opens : MIW yX4_opens cX4_opens 3 (some .boolean) 2 := ⟨nw_mem 1007 rfl rfl, nw_mem 53 rfl rfl, nw_mem 73 rfl rfl, nw_mem 1008 rfl rfl, by decide +kernel, by decide +kernel, by decide +kernel⟩
set_option maxRecDepth 100000 in
theorem mi_X4_agree : MIW yX4_agree cX4_agree 5 (some .boolean) 3 := ⟨nw_mem 1011 rfl rfl, nw_mem 54 rfl rfl, nw_mem 73 rfl rfl, nw_mem 1012 rfl rfl, by decide +kernel, by decide +kernel, by decide +kernel⟩
set_option maxRecDepth 100000 in
theorem mi_X4_cell : MSW yX4_cell cX4_cell 4 (some .int) 4 := ⟨nw_mem 1014 rfl rfl, nw_mem 73 rfl rfl, nw_mem 1015 rfl rfl, by decide +kernel, by decide +kernel, by decide +kernel⟩
set_option maxRecDepth 100000 in
theorem mi_X4_sits : MIW yX4_sits cX4_sits 3 (some .boolean) 2 := ⟨nw_mem 1018 rfl rfl, nw_mem 55 rfl rfl, nw_mem 73 rfl rfl, nw_mem 1019 rfl rfl, by decide +kernel, by decide +kernel, by decide +kernel⟩
set_option maxRecDepth 100000 in
theorem mi_X4_isFree : MIW yX4_isFree cX4_isFree 6 (some .boolean) 2 := ⟨nw_mem 1022 rfl rfl, nw_mem 56 rfl rfl, nw_mem 73 rfl rfl, nw_mem 1023 rfl rfl, by decide +kernel, by decide +kernel, by decide +kernel⟩
set_option maxRecDepth 100000 in
theorem mi_X4_isLike : MIW yX4_isLike cX4_isLike 3 (some .boolean) 2 := ⟨nw_mem 1026 rfl rfl, nw_mem 57 rfl rfl, nw_mem 73 rfl rfl, nw_mem 1027 rfl rfl, by decide +kernel, by decide +kernel, by decide +kernel⟩
set_option maxRecDepth 100000 in
theorem mi_X4_hasSeat : MIW yX4_hasSeat cX4_hasSeat 2 (some .boolean) 1 := ⟨nw_mem 1030 rfl rfl, nw_mem 58 rfl rfl, nw_mem 73 rfl rfl, nw_mem 1031 rfl rfl, by decide +kernel, by decide +kernel, by decide +kernel⟩
set_option maxRecDepth 100000 in
theorem mi_X4_held : MIW yX4_held cX4_held 4 (some .int) 1 := ⟨nw_mem 1034 rfl rfl, nw_mem 59 rfl rfl, nw_mem 73 rfl rfl, nw_mem 1035 rfl rfl, by decide +kernel, by decide +kernel, by decide +kernel⟩
set_option maxRecDepth 100000 in
theorem mi_X4_give : MIW yX4_give cX4_give 5 none 3 := ⟨nw_mem 1038 rfl rfl, nw_mem 60 rfl rfl, nw_mem 73 rfl rfl, nw_mem 1039 rfl rfl, by decide +kernel, by decide +kernel, by decide +kernel⟩
set_option maxRecDepth 100000 in
theorem mi_X4_leave : MIW yX4_leave cX4_leave 5 none 2 := ⟨nw_mem 1042 rfl rfl, nw_mem 61 rfl rfl, nw_mem 73 rfl rfl, nw_mem 1043 rfl rfl, by decide +kernel, by decide +kernel, by decide +kernel⟩
set_option maxRecDepth 100000 in
theorem mi_X4_placeOf : MIW yX4_placeOf cX4_placeOf 5 (some .int) 2 := ⟨nw_mem 1046 rfl rfl, nw_mem 62 rfl rfl, nw_mem 73 rfl rfl, nw_mem 1047 rfl rfl, by decide +kernel, by decide +kernel, by decide +kernel⟩
set_option maxRecDepth 100000 in
theorem mi_X4_rounds : MIW yX4_rounds cX4_rounds 1 (some .int) 0 := ⟨nw_mem 1049 rfl rfl, nw_mem 1050 rfl rfl, nw_mem 73 rfl rfl, nw_mem 1051 rfl rfl, by decide +kernel, by decide +kernel, by decide +kernel⟩
set_option maxRecDepth 100000 in
theorem mi_X4_points : MIW yX4_points cX4_points 2 (some .int) 1 := ⟨nw_mem 1053 rfl rfl, nw_mem 1054 rfl rfl, nw_mem 73 rfl rfl, nw_mem 1055 rfl rfl, by decide +kernel, by decide +kernel, by decide +kernel⟩
set_option maxRecDepth 100000 in
theorem mi_X4_seat : MIW yX4_seat cX4_seat 6 (some .int) 3 := ⟨nw_mem 1057 rfl rfl, nw_mem 1058 rfl rfl, nw_mem 73 rfl rfl, nw_mem 1059 rfl rfl, by decide +kernel, by decide +kernel, by decide +kernel⟩
set_option maxRecDepth 100000 in
theorem mi_X4_at : MIW yX4_at cX4_at 3 (some .int) 2 := ⟨nw_mem 1061 rfl rfl, nw_mem 1062 rfl rfl, nw_mem 73 rfl rfl, nw_mem 1063 rfl rfl, by decide +kernel, by decide +kernel, by decide +kernel⟩
set_option maxRecDepth 100000 in
theorem mi_X4_noneAt : MIW yX4_noneAt cX4_noneAt 3 (some .boolean) 2 := ⟨nw_mem 1066 rfl rfl, nw_mem 63 rfl rfl, nw_mem 73 rfl rfl, nw_mem 1067 rfl rfl, by decide +kernel, by decide +kernel, by decide +kernel⟩
set_option maxRecDepth 100000 in
theorem mi_X4_offerAt : MIW yX4_offerAt cX4_offerAt 5 (some .int) 2 := ⟨nw_mem 1070 rfl rfl, nw_mem 64 rfl rfl, nw_mem 73 rfl rfl, nw_mem 1071 rfl rfl, by decide +kernel, by decide +kernel, by decide +kernel⟩
set_option maxRecDepth 100000 in
theorem mi_X4_holders : MIW yX4_holders cX4_holders 2 (some .int) 1 := ⟨nw_mem 1073 rfl rfl, nw_mem 1074 rfl rfl, nw_mem 73 rfl rfl, nw_mem 1075 rfl rfl, by decide +kernel, by decide +kernel, by decide +kernel⟩
set_option maxRecDepth 100000 in
theorem mi_X4_holder : MIW yX4_holder cX4_holder 7 (some .int) 2 := ⟨nw_mem 1077 rfl rfl, nw_mem 1078 rfl rfl, nw_mem 73 rfl rfl, nw_mem 1079 rfl rfl, by decide +kernel, by decide +kernel, by decide +kernel⟩
set_option maxRecDepth 100000 in
theorem mi_X4_paid : MIW yX4_paid cX4_paid 3 (some .int) 2 := ⟨nw_mem 1081 rfl rfl, nw_mem 1082 rfl rfl, nw_mem 73 rfl rfl, nw_mem 1083 rfl rfl, by decide +kernel, by decide +kernel, by decide +kernel⟩
set_option maxRecDepth 100000 in
theorem mi_X4_waiting : MIW yX4_waiting cX4_waiting 2 (some .int) 1 := ⟨nw_mem 1085 rfl rfl, nw_mem 1086 rfl rfl, nw_mem 73 rfl rfl, nw_mem 1087 rfl rfl, by decide +kernel, by decide +kernel, by decide +kernel⟩
set_option maxRecDepth 100000 in
theorem mi_X4_waiter : MIW yX4_waiter cX4_waiter 3 (some .int) 2 := ⟨nw_mem 1089 rfl rfl, nw_mem 1090 rfl rfl, nw_mem 73 rfl rfl, nw_mem 1091 rfl rfl, by decide +kernel, by decide +kernel, by decide +kernel⟩
set_option maxRecDepth 100000 in
theorem mi_X4_giveUp : MIW yX4_giveUp cX4_giveUp 3 (some .int) 2 := ⟨nw_mem 1093 rfl rfl, nw_mem 1094 rfl rfl, nw_mem 73 rfl rfl, nw_mem 1095 rfl rfl, by decide +kernel, by decide +kernel, by decide +kernel⟩
set_option maxRecDepth 100000 in
theorem mi_X4_bring : MIW yX4_bring cX4_bring 3 none 2 := ⟨nw_mem 1098 rfl rfl, nw_mem 65 rfl rfl, nw_mem 73 rfl rfl, nw_mem 1099 rfl rfl, by decide +kernel, by decide +kernel, by decide +kernel⟩
set_option maxRecDepth 100000 in
theorem mi_X4_movesUp : MIW yX4_movesUp cX4_movesUp 4 (some .int) 1 := ⟨nw_mem 1102 rfl rfl, nw_mem 66 rfl rfl, nw_mem 73 rfl rfl, nw_mem 1103 rfl rfl, by decide +kernel, by decide +kernel, by decide +kernel⟩
set_option maxRecDepth 100000 in
theorem mi_X4_move : MIW yX4_move cX4_move 6 (some .int) 2 := ⟨nw_mem 1105 rfl rfl, nw_mem 1106 rfl rfl, nw_mem 73 rfl rfl, nw_mem 1107 rfl rfl, by decide +kernel, by decide +kernel, by decide +kernel⟩
set_option maxRecDepth 100000 in
theorem mi_X4_slotOf : MIW yX4_slotOf cX4_slotOf 2 (some .int) 1 := ⟨nw_mem 1109 rfl rfl, nw_mem 1110 rfl rfl, nw_mem 73 rfl rfl, nw_mem 1111 rfl rfl, by decide +kernel, by decide +kernel, by decide +kernel⟩
set_option maxRecDepth 100000 in
theorem mi_X4_refunds : MIW yX4_refunds cX4_refunds 1 (some .int) 0 := ⟨nw_mem 1113 rfl rfl, nw_mem 1114 rfl rfl, nw_mem 73 rfl rfl, nw_mem 1115 rfl rfl, by decide +kernel, by decide +kernel, by decide +kernel⟩
set_option maxRecDepth 100000 in
theorem mi_X4_write : MIW yX4_write cX4_write 9 (some .int) 5 := ⟨nw_mem 1117 rfl rfl, nw_mem 1118 rfl rfl, nw_mem 73 rfl rfl, nw_mem 1119 rfl rfl, by decide +kernel, by decide +kernel, by decide +kernel⟩
set_option maxRecDepth 100000 in
theorem mi_X4_fieldOf : MSW yX4_fieldOf cX4_fieldOf 1 (some .int) 1 := ⟨nw_mem 1121 rfl rfl, nw_mem 73 rfl rfl, nw_mem 1122 rfl rfl, by decide +kernel, by decide +kernel, by decide +kernel⟩
set_option maxRecDepth 100000 in
theorem mi_X4_noRecord : MIW yX4_noRecord cX4_noRecord 4 (some .boolean) 3 := ⟨nw_mem 1125 rfl rfl, nw_mem 67 rfl rfl, nw_mem 73 rfl rfl, nw_mem 1126 rfl rfl, by decide +kernel, by decide +kernel, by decide +kernel⟩
set_option maxRecDepth 100000 in
theorem mi_X4_isStore : MSW yX4_isStore cX4_isStore 1 (some .boolean) 1 := ⟨nw_mem 1128 rfl rfl, nw_mem 73 rfl rfl, nw_mem 1129 rfl rfl, by decide +kernel, by decide +kernel, by decide +kernel⟩
set_option maxRecDepth 100000 in
theorem mi_X4_read : MIW yX4_read cX4_read 5 (some .int) 4 := ⟨nw_mem 1131 rfl rfl, nw_mem 1132 rfl rfl, nw_mem 73 rfl rfl, nw_mem 1133 rfl rfl, by decide +kernel, by decide +kernel, by decide +kernel⟩
set_option maxRecDepth 100000 in
theorem mi_X4_sync : MIW yX4_sync cX4_sync 8 (some .int) 2 := ⟨nw_mem 1135 rfl rfl, nw_mem 1136 rfl rfl, nw_mem 73 rfl rfl, nw_mem 1137 rfl rfl, by decide +kernel, by decide +kernel, by decide +kernel⟩
set_option maxRecDepth 100000 in
theorem mi_X4_owner : MIW yX4_owner cX4_owner 2 (some .int) 1 := ⟨nw_mem 1139 rfl rfl, nw_mem 1140 rfl rfl, nw_mem 73 rfl rfl, nw_mem 1141 rfl rfl, by decide +kernel, by decide +kernel, by decide +kernel⟩
set_option maxRecDepth 100000 in
theorem mi_X4_setOwner : MIW yX4_setOwner cX4_setOwner 6 (some .int) 2 := ⟨nw_mem 1143 rfl rfl, nw_mem 1144 rfl rfl, nw_mem 73 rfl rfl, nw_mem 1145 rfl rfl, by decide +kernel, by decide +kernel, by decide +kernel⟩
set_option maxRecDepth 100000 in
theorem mi_X4_apart : MIW yX4_apart cX4_apart 6 (some .int) 1 := ⟨nw_mem 1147 rfl rfl, nw_mem 1148 rfl rfl, nw_mem 73 rfl rfl, nw_mem 1149 rfl rfl, by decide +kernel, by decide +kernel, by decide +kernel⟩
set_option maxRecDepth 100000 in
theorem mi_X4_maySit : MIW yX4_maySit cX4_maySit 3 (some .boolean) 2 := ⟨nw_mem 1151 rfl rfl, nw_mem 1152 rfl rfl, nw_mem 73 rfl rfl, nw_mem 1153 rfl rfl, by decide +kernel, by decide +kernel, by decide +kernel⟩
set_option maxRecDepth 100000 in
theorem mi_X4_isOpen : MIW yX4_isOpen cX4_isOpen 3 (some .boolean) 2 := ⟨nw_mem 1155 rfl rfl, nw_mem 1156 rfl rfl, nw_mem 73 rfl rfl, nw_mem 1157 rfl rfl, by decide +kernel, by decide +kernel, by decide +kernel⟩
set_option maxRecDepth 100000 in
theorem mi_X4_sit : MIW yX4_sit cX4_sit 6 (some .int) 1 := ⟨nw_mem 1159 rfl rfl, nw_mem 1160 rfl rfl, nw_mem 73 rfl rfl, nw_mem 1161 rfl rfl, by decide +kernel, by decide +kernel, by decide +kernel⟩
set_option maxRecDepth 100000 in
theorem mi_X4_satCell : MSW yX4_satCell cX4_satCell 3 (some .int) 3 := ⟨nw_mem 1163 rfl rfl, nw_mem 73 rfl rfl, nw_mem 1164 rfl rfl, by decide +kernel, by decide +kernel, by decide +kernel⟩
set_option maxRecDepth 100000 in
theorem mi_X4_hasSat : MIW yX4_hasSat cX4_hasSat 4 (some .boolean) 3 := ⟨nw_mem 1166 rfl rfl, nw_mem 1167 rfl rfl, nw_mem 73 rfl rfl, nw_mem 1168 rfl rfl, by decide +kernel, by decide +kernel, by decide +kernel⟩
set_option maxRecDepth 100000 in
theorem mi_X4_more : MIW yX4_more cX4_more 3 (some .int) 2 := ⟨nw_mem 1170 rfl rfl, nw_mem 1171 rfl rfl, nw_mem 73 rfl rfl, nw_mem 1172 rfl rfl, by decide +kernel, by decide +kernel, by decide +kernel⟩
set_option maxRecDepth 100000 in
theorem mi_X4_takenShare : MIW yX4_takenShare cX4_takenShare 4 (some .float) 0 := ⟨nw_mem 1174 rfl rfl, nw_mem 1175 rfl rfl, nw_mem 73 rfl rfl, nw_mem 1176 rfl rfl, by decide +kernel, by decide +kernel, by decide +kernel⟩
set_option maxRecDepth 100000 in
theorem mi_X4_meanPoints : MIW yX4_meanPoints cX4_meanPoints 3 (some .double) 0 := ⟨nw_mem 1178 rfl rfl, nw_mem 1179 rfl rfl, nw_mem 73 rfl rfl, nw_mem 1180 rfl rfl, by decide +kernel, by decide +kernel, by decide +kernel⟩
set_option maxRecDepth 100000 in
theorem mi_X4_isTrue : MIW yX4_isTrue cX4_isTrue 1 (some .boolean) 0 := ⟨nw_mem 1182 rfl rfl, nw_mem 1183 rfl rfl, nw_mem 73 rfl rfl, nw_mem 1184 rfl rfl, by decide +kernel, by decide +kernel, by decide +kernel⟩
set_option maxRecDepth 100000 in
theorem mk_L_125 : Cond.methodLink RL 125 yX3_init ∈ nwL := nw_mem 87 rfl rfl
set_option maxRecDepth 100000 in
theorem mk_X3_9 : Cond.methodLinkNest RX3 9 yX1_init "Classfederation" ∈ nwL := nw_mem 95 rfl rfl
set_option maxRecDepth 100000 in
theorem mk_X1_16 : Cond.methodLink RX1 16 yX1_rowOf ∈ nwL := nw_mem 101 rfl rfl
set_option maxRecDepth 100000 in
theorem fk_X1_13 : FLk RX1 13 RX1 "values" "[[I" := Or.inl (nw_mem 104 rfl rfl)
set_option maxRecDepth 100000 in
theorem fk_X1_20 : FLk RX1 20 RX1 "owners" "[I" := Or.inl (nw_mem 105 rfl rfl)
set_option maxRecDepth 100000 in
theorem fk_X3_246 : FLk RX3 246 RX1 "owners" "[I" := Or.inr ⟨"Classfederation", nw_mem 106 rfl rfl⟩
set_option maxRecDepth 100000 in
theorem mk_X3_18 : Cond.methodLinkNest RX3 18 yX2_init "Classfederation" ∈ nwL := nw_mem 115 rfl rfl
set_option maxRecDepth 100000 in
theorem fk_X2_11 : FLk RX2 11 RX2 "pupils" "[I" := Or.inl (nw_mem 119 rfl rfl)
set_option maxRecDepth 100000 in
theorem fk_X3_145 : FLk RX3 145 RX2 "pupils" "[I" := Or.inr ⟨"Classfederation", nw_mem 120 rfl rfl⟩
set_option maxRecDepth 100000 in
theorem fk_X2_15 : FLk RX2 15 RX2 "offers" "[I" := Or.inl (nw_mem 121 rfl rfl)
set_option maxRecDepth 100000 in
theorem fk_X3_148 : FLk RX3 148 RX2 "offers" "[I" := Or.inr ⟨"Classfederation", nw_mem 122 rfl rfl⟩
set_option maxRecDepth 100000 in
theorem fk_X2_18 : FLk RX2 18 RX2 "points" "[I" := Or.inl (nw_mem 123 rfl rfl)
set_option maxRecDepth 100000 in
theorem fk_X3_150 : FLk RX3 150 RX2 "points" "[I" := Or.inr ⟨"Classfederation", nw_mem 124 rfl rfl⟩
set_option maxRecDepth 100000 in
theorem fk_X2_21 : FLk RX2 21 RX2 "count" "I" := Or.inl (nw_mem 125 rfl rfl)
set_option maxRecDepth 100000 in
theorem fk_X3_142 : FLk RX3 142 RX2 "count" "I" := Or.inr ⟨"Classfederation", nw_mem 126 rfl rfl⟩
set_option maxRecDepth 100000 in
theorem mk_X3_29 : Cond.methodLinkNest RX3 29 yX0_init "Classfederation" ∈ nwL := nw_mem 139 rfl rfl
set_option maxRecDepth 100000 in
theorem fk_X0_21 : FLk RX0 21 RX0 "exam" "I" := Or.inl (nw_mem 143 rfl rfl)
set_option maxRecDepth 100000 in
theorem fk_X3_314 : FLk RX3 314 RX0 "exam" "I" := Or.inr ⟨"Classfederation", nw_mem 144 rfl rfl⟩
set_option maxRecDepth 100000 in
theorem fk_X0_25 : FLk RX0 25 RX0 "slot" "I" := Or.inl (nw_mem 145 rfl rfl)
set_option maxRecDepth 100000 in
theorem fk_X3_104 : FLk RX3 104 RX0 "slot" "I" := Or.inr ⟨"Classfederation", nw_mem 146 rfl rfl⟩
set_option maxRecDepth 100000 in
theorem fk_X0_28 : FLk RX0 28 RX0 "room" "I" := Or.inl (nw_mem 147 rfl rfl)
set_option maxRecDepth 100000 in
theorem fk_X3_207 : FLk RX3 207 RX0 "room" "I" := Or.inr ⟨"Classfederation", nw_mem 148 rfl rfl⟩
set_option maxRecDepth 100000 in
theorem fk_X0_31 : FLk RX0 31 RX0 "seats" "I" := Or.inl (nw_mem 149 rfl rfl)
set_option maxRecDepth 100000 in
theorem fk_X3_215 : FLk RX3 215 RX0 "seats" "I" := Or.inr ⟨"Classfederation", nw_mem 150 rfl rfl⟩
set_option maxRecDepth 100000 in
theorem fk_X0_34 : FLk RX0 34 RX0 "isResit" "Z" := Or.inl (nw_mem 151 rfl rfl)
set_option maxRecDepth 100000 in
theorem fk_X3_317 : FLk RX3 317 RX0 "isResit" "Z" := Or.inr ⟨"Classfederation", nw_mem 152 rfl rfl⟩
set_option maxRecDepth 100000 in
theorem fk_X0_9 : FLk RX0 9 RX0 "paidBy" "[I" := Or.inl (nw_mem 153 rfl rfl)
set_option maxRecDepth 100000 in
theorem fk_X3_184 : FLk RX3 184 RX0 "paidBy" "[I" := Or.inr ⟨"Classfederation", nw_mem 154 rfl rfl⟩
set_option maxRecDepth 100000 in
theorem fk_X0_15 : FLk RX0 15 RX0 "waiters" "[I" := Or.inl (nw_mem 155 rfl rfl)
set_option maxRecDepth 100000 in
theorem fk_X3_192 : FLk RX3 192 RX0 "waiters" "[I" := Or.inr ⟨"Classfederation", nw_mem 156 rfl rfl⟩
set_option maxRecDepth 100000 in
theorem fk_X0_18 : FLk RX0 18 RX0 "waiterPoints" "[I" := Or.inl (nw_mem 157 rfl rfl)
set_option maxRecDepth 100000 in
theorem fk_X3_341 : FLk RX3 341 RX0 "waiterPoints" "[I" := Or.inr ⟨"Classfederation", nw_mem 158 rfl rfl⟩
set_option maxRecDepth 100000 in
theorem fk_X0_46 : FLk RX0 46 RX0 "waiterCount" "I" := Or.inl (nw_mem 159 rfl rfl)
set_option maxRecDepth 100000 in
theorem fk_X3_187 : FLk RX3 187 RX0 "waiterCount" "I" := Or.inr ⟨"Classfederation", nw_mem 160 rfl rfl⟩
set_option maxRecDepth 100000 in
theorem fk_X3_10 : FLk RX3 10 RX3 "records" "LClassfederation$Records;" := Or.inl (nw_mem 180 rfl rfl)
set_option maxRecDepth 100000 in
theorem fk_X3_19 : FLk RX3 19 RX3 "round" "LClassfederation$Round;" := Or.inl (nw_mem 181 rfl rfl)
set_option maxRecDepth 100000 in
theorem fk_X3_25 : FLk RX3 25 RX3 "offers" "[LClassfederation$Offer;" := Or.inl (nw_mem 182 rfl rfl)
set_option maxRecDepth 100000 in
theorem fk_X3_30 : FLk RX3 30 RX3 "seatsOfRoom" "[I" := Or.inl (nw_mem 183 rfl rfl)
set_option maxRecDepth 100000 in
theorem fk_X3_34 : FLk RX3 34 RX3 "pointsLeft" "[I" := Or.inl (nw_mem 184 rfl rfl)
set_option maxRecDepth 100000 in
theorem fk_X3_37 : FLk RX3 37 RX3 "forfeited" "[I" := Or.inl (nw_mem 185 rfl rfl)
set_option maxRecDepth 100000 in
theorem fk_X3_40 : FLk RX3 40 RX3 "slotWasSat" "[Z" := Or.inl (nw_mem 186 rfl rfl)
set_option maxRecDepth 100000 in
theorem fk_X3_51 : FLk RX3 51 RX3 "roomCount" "I" := Or.inl (nw_mem 187 rfl rfl)
set_option maxRecDepth 100000 in
theorem fk_X3_60 : FLk RX3 60 RX3 "examCount" "I" := Or.inl (nw_mem 188 rfl rfl)
set_option maxRecDepth 100000 in
theorem fk_X3_65 : FLk RX3 65 RX3 "pupilCount" "I" := Or.inl (nw_mem 189 rfl rfl)
set_option maxRecDepth 100000 in
theorem fk_X3_91 : FLk RX3 91 RX3 "offerCount" "I" := Or.inl (nw_mem 190 rfl rfl)
set_option maxRecDepth 100000 in
theorem fk_X3_157 : FLk RX3 157 RX3 "settledRounds" "I" := Or.inl (nw_mem 191 rfl rfl)
set_option maxRecDepth 100000 in
theorem fk_X3_218 : FLk RX3 218 RX3 "refundSum" "I" := Or.inl (nw_mem 192 rfl rfl)
set_option maxRecDepth 100000 in
theorem mk_L_157 : Cond.methodLink RL 157 yX3_bids ∈ nwL := nw_mem 221 rfl rfl
set_option maxRecDepth 100000 in
theorem mk_L_161 : Cond.methodLink RL 161 yX3_settle ∈ nwL := nw_mem 225 rfl rfl
set_option maxRecDepth 100000 in
theorem mk_X3_153 : Cond.methodLink RX3 153 yX3_isSeatWon ∈ nwL := nw_mem 229 rfl rfl
set_option maxRecDepth 100000 in
theorem mk_X3_325 : Cond.methodLink RX3 325 yX3_needsOnlySeat ∈ nwL := nw_mem 233 rfl rfl
set_option maxRecDepth 100000 in
theorem mk_X3_120 : Cond.methodLink RX3 120 yX3_isClosed ∈ nwL := nw_mem 237 rfl rfl
set_option maxRecDepth 100000 in
theorem mk_X3_321 : Cond.methodLink RX3 321 yX3_mayHaveSeat ∈ nwL := nw_mem 241 rfl rfl
set_option maxRecDepth 100000 in
theorem mk_X3_258 : Cond.methodLinkNest RX3 258 yX1_isRightGiven "Classfederation" ∈ nwL := nw_mem 245 rfl rfl
set_option maxRecDepth 100000 in
theorem mk_X1_24 : Cond.methodLink RX1 24 yX1_cellOf ∈ nwL := nw_mem 249 rfl rfl
set_option maxRecDepth 100000 in
theorem mk_X1_35 : Cond.methodLink RX1 35 yX1_isAgreed ∈ nwL := nw_mem 252 rfl rfl
set_option maxRecDepth 100000 in
theorem mk_X3_261 : Cond.methodLinkNest RX3 261 yX1_isResitOpen "Classfederation" ∈ nwL := nw_mem 256 rfl rfl
set_option maxRecDepth 100000 in
theorem mk_X3_269 : Cond.methodLinkNest RX3 269 yX1_valueByOwner "Classfederation" ∈ nwL := nw_mem 260 rfl rfl
set_option maxRecDepth 100000 in
theorem mk_X1_27 : Cond.methodLink RX1 27 yX1_valueIn ∈ nwL := nw_mem 264 rfl rfl
set_option maxRecDepth 100000 in
theorem mk_X3_160 : Cond.methodLink RX3 160 yX3_offerHeldFor ∈ nwL := nw_mem 268 rfl rfl
set_option maxRecDepth 100000 in
theorem mk_X3_305 : Cond.methodLinkNest RX3 305 yX0_isOf "Classfederation" ∈ nwL := nw_mem 272 rfl rfl
set_option maxRecDepth 100000 in
theorem mk_X3_178 : Cond.methodLinkNest RX3 178 yX0_hasSeated "Classfederation" ∈ nwL := nw_mem 276 rfl rfl
set_option maxRecDepth 100000 in
theorem mk_X3_309 : Cond.methodLink RX3 309 yX3_offerHeldAt ∈ nwL := nw_mem 280 rfl rfl
set_option maxRecDepth 100000 in
theorem mk_X3_328 : Cond.methodLinkNest RX3 328 yX0_isFull "Classfederation" ∈ nwL := nw_mem 284 rfl rfl
set_option maxRecDepth 100000 in
theorem mk_X0_42 : Cond.methodLink RX0 42 yX0_countTaken ∈ nwL := nw_mem 288 rfl rfl
set_option maxRecDepth 100000 in
theorem mk_X0_38 : Cond.methodLink RX0 38 yX0_hasSeated ∈ nwL := nw_mem 292 rfl rfl
set_option maxRecDepth 100000 in
theorem mk_X3_331 : Cond.methodLinkNest RX3 331 yX0_letWait "Classfederation" ∈ nwL := nw_mem 293 rfl rfl
set_option maxRecDepth 100000 in
theorem mk_X0_49 : Cond.methodLink RX0 49 yX0_placeInQueue ∈ nwL := nw_mem 297 rfl rfl
set_option maxRecDepth 100000 in
theorem mk_X3_334 : Cond.methodLink RX3 334 yX3_giveSeat ∈ nwL := nw_mem 301 rfl rfl
set_option maxRecDepth 100000 in
theorem mk_X3_338 : Cond.methodLinkNest RX3 338 yX0_letWaitNoMore "Classfederation" ∈ nwL := nw_mem 305 rfl rfl
set_option maxRecDepth 100000 in
theorem mk_L_165 : Cond.methodLink RL 165 yX3_rounds ∈ nwL := nw_mem 309 rfl rfl
set_option maxRecDepth 100000 in
theorem mk_L_203 : Cond.methodLink RL 203 yX3_refunds ∈ nwL := nw_mem 313 rfl rfl
set_option maxRecDepth 100000 in
theorem mk_L_251 : Cond.methodLink RL 251 yX3_isTrue ∈ nwL := nw_mem 317 rfl rfl
set_option maxRecDepth 100000 in
theorem mk_X3_280 : Cond.methodLink RX3 280 yX3_hasSeatsThatClash ∈ nwL := nw_mem 321 rfl rfl
set_option maxRecDepth 100000 in
theorem mk_X3_283 : Cond.methodLink RX3 283 yX3_arePointsWhole ∈ nwL := nw_mem 325 rfl rfl
set_option maxRecDepth 100000 in
theorem mk_X3_169 : Cond.methodLinkNest RX3 169 yX0_countTaken "Classfederation" ∈ nwL := nw_mem 329 rfl rfl
set_option maxRecDepth 100000 in
theorem mk_X3_286 : Cond.methodLinkNest RX3 286 yX0_hasSeatedWaiter "Classfederation" ∈ nwL := nw_mem 330 rfl rfl
set_option maxRecDepth 100000 in
theorem mk_X3_290 : Cond.methodLink RX3 290 yX3_isRoomShared ∈ nwL := nw_mem 334 rfl rfl
set_option maxRecDepth 100000 in
theorem mk_L_129 : Cond.methodLink RL 129 yL_room ∈ nwL := nw_mem 338 rfl rfl
set_option maxRecDepth 100000 in
theorem mk_L_7 : Cond.methodLink RL 7 yX3_room ∈ nwL := nw_mem 343 rfl rfl
set_option maxRecDepth 100000 in
theorem mk_L_138 : Cond.methodLink RL 138 yL_exam ∈ nwL := nw_mem 435 rfl rfl
set_option maxRecDepth 100000 in
theorem mk_L_17 : Cond.methodLink RL 17 yX3_exam ∈ nwL := nw_mem 438 rfl rfl
set_option maxRecDepth 100000 in
theorem mk_L_142 : Cond.methodLink RL 142 yL_pupil ∈ nwL := nw_mem 443 rfl rfl
set_option maxRecDepth 100000 in
theorem mk_L_21 : Cond.methodLink RL 21 yX3_pupil ∈ nwL := nw_mem 446 rfl rfl
set_option maxRecDepth 100000 in
theorem mk_L_145 : Cond.methodLink RL 145 yL_offer ∈ nwL := nw_mem 451 rfl rfl
set_option maxRecDepth 100000 in
theorem mk_L_24 : Cond.methodLink RL 24 yX3_offer ∈ nwL := nw_mem 479 rfl rfl
set_option maxRecDepth 100000 in
theorem mk_X3_70 : Cond.methodLink RX3 70 yX3_needExam ∈ nwL := nw_mem 483 rfl rfl
set_option maxRecDepth 100000 in
theorem mk_X3_79 : Cond.methodLink RX3 79 yX3_needSlot ∈ nwL := nw_mem 501 rfl rfl
set_option maxRecDepth 100000 in
theorem mk_X3_82 : Cond.methodLink RX3 82 yX3_isRoomTaken ∈ nwL := nw_mem 505 rfl rfl
set_option maxRecDepth 100000 in
theorem mk_X3_96 : Cond.methodLinkNest RX3 96 yX0_open "Classfederation" ∈ nwL := nw_mem 526 rfl rfl
set_option maxRecDepth 100000 in
theorem mk_L_149 : Cond.methodLink RL 149 yL_bid ∈ nwL := nw_mem 530 rfl rfl
set_option maxRecDepth 100000 in
theorem mk_L_32 : Cond.methodLink RL 32 yX3_bid ∈ nwL := nw_mem 533 rfl rfl
set_option maxRecDepth 100000 in
theorem mk_X3_107 : Cond.methodLink RX3 107 yX3_needPupil ∈ nwL := nw_mem 537 rfl rfl
set_option maxRecDepth 100000 in
theorem mk_X3_100 : Cond.methodLink RX3 100 yX3_offerNumbered ∈ nwL := nw_mem 542 rfl rfl
set_option maxRecDepth 100000 in
theorem mk_X3_134 : Cond.methodLink RX3 134 yX3_needOffer ∈ nwL := nw_mem 546 rfl rfl
set_option maxRecDepth 100000 in
theorem mk_X3_112 : Cond.methodLinkNest RX3 112 yX2_sumOf "Classfederation" ∈ nwL := nw_mem 552 rfl rfl
set_option maxRecDepth 100000 in
theorem mk_X3_116 : Cond.methodLinkNest RX3 116 yX2_pointsBid "Classfederation" ∈ nwL := nw_mem 556 rfl rfl
set_option maxRecDepth 100000 in
theorem mk_X2_25 : Cond.methodLink RX2 25 yX2_placeOf ∈ nwL := nw_mem 560 rfl rfl
set_option maxRecDepth 100000 in
theorem mk_X3_126 : Cond.methodLinkNest RX3 126 yX2_takeOut "Classfederation" ∈ nwL := nw_mem 565 rfl rfl
set_option maxRecDepth 100000 in
theorem mk_X3_130 : Cond.methodLinkNest RX3 130 yX2_tell "Classfederation" ∈ nwL := nw_mem 569 rfl rfl
set_option maxRecDepth 100000 in
theorem mk_L_153 : Cond.methodLink RL 153 yL_unbid ∈ nwL := nw_mem 573 rfl rfl
set_option maxRecDepth 100000 in
theorem mk_L_36 : Cond.methodLink RL 36 yX3_unbid ∈ nwL := nw_mem 577 rfl rfl
set_option maxRecDepth 100000 in
theorem mk_L_169 : Cond.methodLink RL 169 yL_points ∈ nwL := nw_mem 597 rfl rfl
set_option maxRecDepth 100000 in
theorem mk_L_42 : Cond.methodLink RL 42 yX3_points ∈ nwL := nw_mem 600 rfl rfl
set_option maxRecDepth 100000 in
theorem mk_L_172 : Cond.methodLink RL 172 yL_seat ∈ nwL := nw_mem 604 rfl rfl
set_option maxRecDepth 100000 in
theorem mk_L_45 : Cond.methodLink RL 45 yX3_seat ∈ nwL := nw_mem 607 rfl rfl
set_option maxRecDepth 100000 in
theorem mk_L_176 : Cond.methodLink RL 176 yL_at ∈ nwL := nw_mem 612 rfl rfl
set_option maxRecDepth 100000 in
theorem mk_L_49 : Cond.methodLink RL 49 yX3_at ∈ nwL := nw_mem 615 rfl rfl
set_option maxRecDepth 100000 in
theorem mk_X3_166 : Cond.methodLink RX3 166 yX3_examHeldAt ∈ nwL := nw_mem 619 rfl rfl
set_option maxRecDepth 100000 in
theorem mk_L_179 : Cond.methodLink RL 179 yL_holders ∈ nwL := nw_mem 624 rfl rfl
set_option maxRecDepth 100000 in
theorem mk_L_52 : Cond.methodLink RL 52 yX3_holders ∈ nwL := nw_mem 627 rfl rfl
set_option maxRecDepth 100000 in
theorem mk_L_182 : Cond.methodLink RL 182 yL_holder ∈ nwL := nw_mem 631 rfl rfl
set_option maxRecDepth 100000 in
theorem mk_L_55 : Cond.methodLink RL 55 yX3_holder ∈ nwL := nw_mem 634 rfl rfl
set_option maxRecDepth 100000 in
theorem mk_X3_173 : Cond.methodLinkNest RX3 173 yX0_pupilSeated "Classfederation" ∈ nwL := nw_mem 638 rfl rfl
set_option maxRecDepth 100000 in
theorem mk_L_185 : Cond.methodLink RL 185 yL_paid ∈ nwL := nw_mem 643 rfl rfl
set_option maxRecDepth 100000 in
theorem mk_L_58 : Cond.methodLink RL 58 yX3_paid ∈ nwL := nw_mem 646 rfl rfl
set_option maxRecDepth 100000 in
theorem mk_L_188 : Cond.methodLink RL 188 yL_waiting ∈ nwL := nw_mem 651 rfl rfl
set_option maxRecDepth 100000 in
theorem mk_L_61 : Cond.methodLink RL 61 yX3_waiting ∈ nwL := nw_mem 654 rfl rfl
set_option maxRecDepth 100000 in
theorem mk_L_191 : Cond.methodLink RL 191 yL_waiter ∈ nwL := nw_mem 658 rfl rfl
set_option maxRecDepth 100000 in
theorem mk_L_64 : Cond.methodLink RL 64 yX3_waiter ∈ nwL := nw_mem 661 rfl rfl
set_option maxRecDepth 100000 in
theorem mk_L_194 : Cond.methodLink RL 194 yL_giveUp ∈ nwL := nw_mem 666 rfl rfl
set_option maxRecDepth 100000 in
theorem mk_L_67 : Cond.methodLink RL 67 yX3_giveUp ∈ nwL := nw_mem 669 rfl rfl
set_option maxRecDepth 100000 in
theorem mk_X3_197 : Cond.methodLinkNest RX3 197 yX0_unseat "Classfederation" ∈ nwL := nw_mem 674 rfl rfl
set_option maxRecDepth 100000 in
theorem mk_X3_200 : Cond.methodLink RX3 200 yX3_payBack ∈ nwL := nw_mem 678 rfl rfl
set_option maxRecDepth 100000 in
theorem mk_X3_203 : Cond.methodLink RX3 203 yX3_moveOneUp ∈ nwL := nw_mem 682 rfl rfl
set_option maxRecDepth 100000 in
theorem mk_L_197 : Cond.methodLink RL 197 yL_move ∈ nwL := nw_mem 686 rfl rfl
set_option maxRecDepth 100000 in
theorem mk_L_70 : Cond.methodLink RL 70 yX3_move ∈ nwL := nw_mem 689 rfl rfl
set_option maxRecDepth 100000 in
theorem mk_X3_212 : Cond.methodLink RX3 212 yX3_isSeatLostByMove ∈ nwL := nw_mem 694 rfl rfl
set_option maxRecDepth 100000 in
theorem mk_L_200 : Cond.methodLink RL 200 yL_slotOf ∈ nwL := nw_mem 698 rfl rfl
set_option maxRecDepth 100000 in
theorem mk_L_73 : Cond.methodLink RL 73 yX3_slotOf ∈ nwL := nw_mem 701 rfl rfl
set_option maxRecDepth 100000 in
theorem mk_L_207 : Cond.methodLink RL 207 yL_write ∈ nwL := nw_mem 705 rfl rfl
set_option maxRecDepth 100000 in
theorem mk_L_76 : Cond.methodLink RL 76 yX3_write ∈ nwL := nw_mem 708 rfl rfl
set_option maxRecDepth 100000 in
theorem mk_X3_221 : Cond.methodLink RX3 221 yX3_needStore ∈ nwL := nw_mem 712 rfl rfl
set_option maxRecDepth 100000 in
theorem mk_X3_224 : Cond.methodLink RX3 224 yX3_fieldNumbered ∈ nwL := nw_mem 716 rfl rfl
set_option maxRecDepth 100000 in
theorem mk_X3_228 : Cond.methodLinkNest RX3 228 yX1_isInRange "Classfederation" ∈ nwL := nw_mem 720 rfl rfl
set_option maxRecDepth 100000 in
theorem mk_X3_233 : Cond.methodLinkNest RX3 233 yX1_valueIn "Classfederation" ∈ nwL := nw_mem 724 rfl rfl
set_option maxRecDepth 100000 in
theorem mk_X3_237 : Cond.methodLinkNest RX3 237 yX1_put "Classfederation" ∈ nwL := nw_mem 725 rfl rfl
set_option maxRecDepth 100000 in
theorem mk_L_211 : Cond.methodLink RL 211 yL_read ∈ nwL := nw_mem 729 rfl rfl
set_option maxRecDepth 100000 in
theorem mk_L_80 : Cond.methodLink RL 80 yX3_read ∈ nwL := nw_mem 732 rfl rfl
set_option maxRecDepth 100000 in
theorem mk_L_215 : Cond.methodLink RL 215 yL_sync ∈ nwL := nw_mem 736 rfl rfl
set_option maxRecDepth 100000 in
theorem mk_L_84 : Cond.methodLink RL 84 yX3_sync ∈ nwL := nw_mem 739 rfl rfl
set_option maxRecDepth 100000 in
theorem mk_X3_243 : Cond.methodLinkNest RX3 243 yX1_copyOwned "Classfederation" ∈ nwL := nw_mem 744 rfl rfl
set_option maxRecDepth 100000 in
theorem mk_X1_31 : Cond.methodLink RX1 31 yX1_copyRow ∈ nwL := nw_mem 748 rfl rfl
set_option maxRecDepth 100000 in
theorem mk_L_218 : Cond.methodLink RL 218 yL_owner ∈ nwL := nw_mem 751 rfl rfl
set_option maxRecDepth 100000 in
theorem mk_L_87 : Cond.methodLink RL 87 yX3_owner ∈ nwL := nw_mem 754 rfl rfl
set_option maxRecDepth 100000 in
theorem mk_L_222 : Cond.methodLink RL 222 yL_setOwner ∈ nwL := nw_mem 758 rfl rfl
set_option maxRecDepth 100000 in
theorem mk_L_91 : Cond.methodLink RL 91 yX3_setOwner ∈ nwL := nw_mem 761 rfl rfl
set_option maxRecDepth 100000 in
theorem mk_X3_249 : Cond.methodLinkNest RX3 249 yX1_areSame "Classfederation" ∈ nwL := nw_mem 765 rfl rfl
set_option maxRecDepth 100000 in
theorem mk_L_226 : Cond.methodLink RL 226 yL_apart ∈ nwL := nw_mem 770 rfl rfl
set_option maxRecDepth 100000 in
theorem mk_L_95 : Cond.methodLink RL 95 yX3_apart ∈ nwL := nw_mem 773 rfl rfl
set_option maxRecDepth 100000 in
theorem mk_X3_255 : Cond.methodLinkNest RX3 255 yX1_countApart "Classfederation" ∈ nwL := nw_mem 777 rfl rfl
set_option maxRecDepth 100000 in
theorem mk_L_229 : Cond.methodLink RL 229 yL_maySit ∈ nwL := nw_mem 781 rfl rfl
set_option maxRecDepth 100000 in
theorem mk_L_98 : Cond.methodLink RL 98 yX3_maySit ∈ nwL := nw_mem 784 rfl rfl
set_option maxRecDepth 100000 in
theorem mk_L_232 : Cond.methodLink RL 232 yL_isOpen ∈ nwL := nw_mem 788 rfl rfl
set_option maxRecDepth 100000 in
theorem mk_L_102 : Cond.methodLink RL 102 yX3_isOpen ∈ nwL := nw_mem 791 rfl rfl
set_option maxRecDepth 100000 in
theorem mk_L_235 : Cond.methodLink RL 235 yL_sit ∈ nwL := nw_mem 795 rfl rfl
set_option maxRecDepth 100000 in
theorem mk_L_105 : Cond.methodLink RL 105 yX3_sit ∈ nwL := nw_mem 798 rfl rfl
set_option maxRecDepth 100000 in
theorem mk_X3_266 : Cond.methodLink RX3 266 yX3_letSit ∈ nwL := nw_mem 803 rfl rfl
set_option maxRecDepth 100000 in
theorem mk_L_238 : Cond.methodLink RL 238 yL_hasSat ∈ nwL := nw_mem 807 rfl rfl
set_option maxRecDepth 100000 in
theorem mk_L_108 : Cond.methodLink RL 108 yX3_hasSat ∈ nwL := nw_mem 810 rfl rfl
set_option maxRecDepth 100000 in
theorem mk_L_241 : Cond.methodLink RL 241 yL_more ∈ nwL := nw_mem 814 rfl rfl
set_option maxRecDepth 100000 in
theorem mk_L_112 : Cond.methodLink RL 112 yX3_more ∈ nwL := nw_mem 817 rfl rfl
set_option maxRecDepth 100000 in
theorem mk_L_244 : Cond.methodLink RL 244 yL_takenShare ∈ nwL := nw_mem 821 rfl rfl
set_option maxRecDepth 100000 in
theorem mk_L_115 : Cond.methodLink RL 115 yX3_takenShare ∈ nwL := nw_mem 838 rfl rfl
set_option maxRecDepth 100000 in
theorem mk_L_248 : Cond.methodLink RL 248 yL_meanPoints ∈ nwL := nw_mem 845 rfl rfl
set_option maxRecDepth 100000 in
theorem mk_L_121 : Cond.methodLink RL 121 yX3_meanPoints ∈ nwL := nw_mem 848 rfl rfl
set_option maxRecDepth 100000 in
theorem mk_L_128 : Cond.methodLink RL 128 yX4_init ∈ nwL := nw_mem 855 rfl rfl
set_option maxRecDepth 100000 in
theorem fk_X4_59 : FLk RX4 59 RX4 "thrown" "I" := Or.inl (nw_mem 859 rfl rfl)
set_option maxRecDepth 100000 in
theorem fk_X4_76 : FLk RX4 76 RX4 "rooms" "I" := Or.inl (nw_mem 860 rfl rfl)
set_option maxRecDepth 100000 in
theorem fk_X4_70 : FLk RX4 70 RX4 "exams" "I" := Or.inl (nw_mem 861 rfl rfl)
set_option maxRecDepth 100000 in
theorem fk_X4_63 : FLk RX4 63 RX4 "pupils" "I" := Or.inl (nw_mem 862 rfl rfl)
set_option maxRecDepth 100000 in
theorem fk_X4_73 : FLk RX4 73 RX4 "offers" "I" := Or.inl (nw_mem 863 rfl rfl)
set_option maxRecDepth 100000 in
theorem fk_X4_136 : FLk RX4 136 RX4 "rounds" "I" := Or.inl (nw_mem 864 rfl rfl)
set_option maxRecDepth 100000 in
theorem fk_X4_159 : FLk RX4 159 RX4 "refunds" "I" := Or.inl (nw_mem 865 rfl rfl)
set_option maxRecDepth 100000 in
theorem fk_X4_100 : FLk RX4 100 RX4 "told" "I" := Or.inl (nw_mem 866 rfl rfl)
set_option maxRecDepth 100000 in
theorem fk_X4_7 : FLk RX4 7 RX4 "seats" "[I" := Or.inl (nw_mem 867 rfl rfl)
set_option maxRecDepth 100000 in
theorem fk_X4_13 : FLk RX4 13 RX4 "exam" "[I" := Or.inl (nw_mem 868 rfl rfl)
set_option maxRecDepth 100000 in
theorem fk_X4_16 : FLk RX4 16 RX4 "slot" "[I" := Or.inl (nw_mem 869 rfl rfl)
set_option maxRecDepth 100000 in
theorem fk_X4_19 : FLk RX4 19 RX4 "room" "[I" := Or.inl (nw_mem 870 rfl rfl)
set_option maxRecDepth 100000 in
theorem fk_X4_22 : FLk RX4 22 RX4 "isResit" "[Z" := Or.inl (nw_mem 871 rfl rfl)
set_option maxRecDepth 100000 in
theorem fk_X4_26 : FLk RX4 26 RX4 "waiting" "[I" := Or.inl (nw_mem 872 rfl rfl)
set_option maxRecDepth 100000 in
theorem fk_X4_29 : FLk RX4 29 RX4 "waiter" "[I" := Or.inl (nw_mem 873 rfl rfl)
set_option maxRecDepth 100000 in
theorem fk_X4_32 : FLk RX4 32 RX4 "waits" "[I" := Or.inl (nw_mem 874 rfl rfl)
set_option maxRecDepth 100000 in
theorem fk_X4_35 : FLk RX4 35 RX4 "bid" "[I" := Or.inl (nw_mem 875 rfl rfl)
set_option maxRecDepth 100000 in
theorem fk_X4_38 : FLk RX4 38 RX4 "when" "[I" := Or.inl (nw_mem 876 rfl rfl)
set_option maxRecDepth 100000 in
theorem fk_X4_41 : FLk RX4 41 RX4 "paid" "[I" := Or.inl (nw_mem 877 rfl rfl)
set_option maxRecDepth 100000 in
theorem fk_X4_44 : FLk RX4 44 RX4 "value" "[I" := Or.inl (nw_mem 878 rfl rfl)
set_option maxRecDepth 100000 in
theorem fk_X4_47 : FLk RX4 47 RX4 "owner" "[I" := Or.inl (nw_mem 879 rfl rfl)
set_option maxRecDepth 100000 in
theorem fk_X4_50 : FLk RX4 50 RX4 "points" "[I" := Or.inl (nw_mem 880 rfl rfl)
set_option maxRecDepth 100000 in
theorem fk_X4_53 : FLk RX4 53 RX4 "isSat" "[Z" := Or.inl (nw_mem 881 rfl rfl)
set_option maxRecDepth 100000 in
theorem fk_X4_56 : FLk RX4 56 RX4 "hasSat" "[Z" := Or.inl (nw_mem 882 rfl rfl)
set_option maxRecDepth 100000 in
theorem mk_L_135 : Cond.methodLink RL 135 yX4_thrown ∈ nwL := nw_mem 932 rfl rfl
set_option maxRecDepth 100000 in
theorem mk_L_134 : Cond.methodLink RL 134 yX4_room ∈ nwL := nw_mem 936 rfl rfl
set_option maxRecDepth 100000 in
theorem mk_X4_66 : Cond.methodLink RX4 66 yX4_in ∈ nwL := nw_mem 940 rfl rfl
set_option maxRecDepth 100000 in
theorem mk_L_141 : Cond.methodLink RL 141 yX4_exam ∈ nwL := nw_mem 943 rfl rfl
set_option maxRecDepth 100000 in
theorem mk_L_144 : Cond.methodLink RL 144 yX4_pupil ∈ nwL := nw_mem 947 rfl rfl
set_option maxRecDepth 100000 in
theorem mk_L_148 : Cond.methodLink RL 148 yX4_offer ∈ nwL := nw_mem 951 rfl rfl
set_option maxRecDepth 100000 in
theorem mk_X4_79 : Cond.methodLink RX4 79 yX4_isExam ∈ nwL := nw_mem 955 rfl rfl
set_option maxRecDepth 100000 in
theorem mk_X4_83 : Cond.methodLink RX4 83 yX4_isSlot ∈ nwL := nw_mem 959 rfl rfl
set_option maxRecDepth 100000 in
theorem mk_X4_86 : Cond.methodLink RX4 86 yX4_isTaken ∈ nwL := nw_mem 962 rfl rfl
set_option maxRecDepth 100000 in
theorem mk_L_152 : Cond.methodLink RL 152 yX4_bid ∈ nwL := nw_mem 966 rfl rfl
set_option maxRecDepth 100000 in
theorem mk_X4_90 : Cond.methodLink RX4 90 yX4_isPupil ∈ nwL := nw_mem 970 rfl rfl
set_option maxRecDepth 100000 in
theorem mk_X4_93 : Cond.methodLink RX4 93 yX4_isOffer ∈ nwL := nw_mem 974 rfl rfl
set_option maxRecDepth 100000 in
theorem mk_X4_96 : Cond.methodLink RX4 96 yX4_pair ∈ nwL := nw_mem 978 rfl rfl
set_option maxRecDepth 100000 in
theorem mk_L_156 : Cond.methodLink RL 156 yX4_unbid ∈ nwL := nw_mem 981 rfl rfl
set_option maxRecDepth 100000 in
theorem mk_L_160 : Cond.methodLink RL 160 yX4_bids ∈ nwL := nw_mem 985 rfl rfl
set_option maxRecDepth 100000 in
theorem mk_L_164 : Cond.methodLink RL 164 yX4_settle ∈ nwL := nw_mem 989 rfl rfl
set_option maxRecDepth 100000 in
theorem mk_X4_139 : Cond.methodLink RX4 139 yX4_nextBid ∈ nwL := nw_mem 993 rfl rfl
set_option maxRecDepth 100000 in
theorem mk_X4_143 : Cond.methodLink RX4 143 yX4_does ∈ nwL := nw_mem 997 rfl rfl
set_option maxRecDepth 100000 in
theorem mk_X4_123 : Cond.methodLink RX4 123 yX4_can ∈ nwL := nw_mem 1001 rfl rfl
set_option maxRecDepth 100000 in
theorem mk_X4_110 : Cond.methodLink RX4 110 yX4_opens ∈ nwL := nw_mem 1005 rfl rfl
set_option maxRecDepth 100000 in
theorem mk_X4_107 : Cond.methodLink RX4 107 yX4_agree ∈ nwL := nw_mem 1009 rfl rfl
set_option maxRecDepth 100000 in
theorem mk_X4_103 : Cond.methodLink RX4 103 yX4_cell ∈ nwL := nw_mem 1013 rfl rfl
set_option maxRecDepth 100000 in
theorem mk_X4_113 : Cond.methodLink RX4 113 yX4_sits ∈ nwL := nw_mem 1016 rfl rfl
set_option maxRecDepth 100000 in
theorem mk_X4_126 : Cond.methodLink RX4 126 yX4_isFree ∈ nwL := nw_mem 1020 rfl rfl
set_option maxRecDepth 100000 in
theorem mk_X4_116 : Cond.methodLink RX4 116 yX4_isLike ∈ nwL := nw_mem 1024 rfl rfl
set_option maxRecDepth 100000 in
theorem mk_X4_146 : Cond.methodLink RX4 146 yX4_hasSeat ∈ nwL := nw_mem 1028 rfl rfl
set_option maxRecDepth 100000 in
theorem mk_X4_119 : Cond.methodLink RX4 119 yX4_held ∈ nwL := nw_mem 1032 rfl rfl
set_option maxRecDepth 100000 in
theorem mk_X4_149 : Cond.methodLink RX4 149 yX4_give ∈ nwL := nw_mem 1036 rfl rfl
set_option maxRecDepth 100000 in
theorem mk_X4_132 : Cond.methodLink RX4 132 yX4_leave ∈ nwL := nw_mem 1040 rfl rfl
set_option maxRecDepth 100000 in
theorem mk_X4_129 : Cond.methodLink RX4 129 yX4_placeOf ∈ nwL := nw_mem 1044 rfl rfl
set_option maxRecDepth 100000 in
theorem mk_L_168 : Cond.methodLink RL 168 yX4_rounds ∈ nwL := nw_mem 1048 rfl rfl
set_option maxRecDepth 100000 in
theorem mk_L_171 : Cond.methodLink RL 171 yX4_points ∈ nwL := nw_mem 1052 rfl rfl
set_option maxRecDepth 100000 in
theorem mk_L_175 : Cond.methodLink RL 175 yX4_seat ∈ nwL := nw_mem 1056 rfl rfl
set_option maxRecDepth 100000 in
theorem mk_L_178 : Cond.methodLink RL 178 yX4_at ∈ nwL := nw_mem 1060 rfl rfl
set_option maxRecDepth 100000 in
theorem mk_X4_156 : Cond.methodLink RX4 156 yX4_noneAt ∈ nwL := nw_mem 1064 rfl rfl
set_option maxRecDepth 100000 in
theorem mk_X4_153 : Cond.methodLink RX4 153 yX4_offerAt ∈ nwL := nw_mem 1068 rfl rfl
set_option maxRecDepth 100000 in
theorem mk_L_181 : Cond.methodLink RL 181 yX4_holders ∈ nwL := nw_mem 1072 rfl rfl
set_option maxRecDepth 100000 in
theorem mk_L_184 : Cond.methodLink RL 184 yX4_holder ∈ nwL := nw_mem 1076 rfl rfl
set_option maxRecDepth 100000 in
theorem mk_L_187 : Cond.methodLink RL 187 yX4_paid ∈ nwL := nw_mem 1080 rfl rfl
set_option maxRecDepth 100000 in
theorem mk_L_190 : Cond.methodLink RL 190 yX4_waiting ∈ nwL := nw_mem 1084 rfl rfl
set_option maxRecDepth 100000 in
theorem mk_L_193 : Cond.methodLink RL 193 yX4_waiter ∈ nwL := nw_mem 1088 rfl rfl
set_option maxRecDepth 100000 in
theorem mk_L_196 : Cond.methodLink RL 196 yX4_giveUp ∈ nwL := nw_mem 1092 rfl rfl
set_option maxRecDepth 100000 in
theorem mk_X4_162 : Cond.methodLink RX4 162 yX4_bring ∈ nwL := nw_mem 1096 rfl rfl
set_option maxRecDepth 100000 in
theorem mk_X4_165 : Cond.methodLink RX4 165 yX4_movesUp ∈ nwL := nw_mem 1100 rfl rfl
set_option maxRecDepth 100000 in
theorem mk_L_199 : Cond.methodLink RL 199 yX4_move ∈ nwL := nw_mem 1104 rfl rfl
set_option maxRecDepth 100000 in
theorem mk_L_202 : Cond.methodLink RL 202 yX4_slotOf ∈ nwL := nw_mem 1108 rfl rfl
set_option maxRecDepth 100000 in
theorem mk_L_206 : Cond.methodLink RL 206 yX4_refunds ∈ nwL := nw_mem 1112 rfl rfl
set_option maxRecDepth 100000 in
theorem mk_L_210 : Cond.methodLink RL 210 yX4_write ∈ nwL := nw_mem 1116 rfl rfl
set_option maxRecDepth 100000 in
theorem mk_X4_171 : Cond.methodLink RX4 171 yX4_fieldOf ∈ nwL := nw_mem 1120 rfl rfl
set_option maxRecDepth 100000 in
theorem mk_X4_175 : Cond.methodLink RX4 175 yX4_noRecord ∈ nwL := nw_mem 1123 rfl rfl
set_option maxRecDepth 100000 in
theorem mk_X4_168 : Cond.methodLink RX4 168 yX4_isStore ∈ nwL := nw_mem 1127 rfl rfl
set_option maxRecDepth 100000 in
theorem mk_L_214 : Cond.methodLink RL 214 yX4_read ∈ nwL := nw_mem 1130 rfl rfl
set_option maxRecDepth 100000 in
theorem mk_L_217 : Cond.methodLink RL 217 yX4_sync ∈ nwL := nw_mem 1134 rfl rfl
set_option maxRecDepth 100000 in
theorem mk_L_221 : Cond.methodLink RL 221 yX4_owner ∈ nwL := nw_mem 1138 rfl rfl
set_option maxRecDepth 100000 in
theorem mk_L_225 : Cond.methodLink RL 225 yX4_setOwner ∈ nwL := nw_mem 1142 rfl rfl
set_option maxRecDepth 100000 in
theorem mk_L_228 : Cond.methodLink RL 228 yX4_apart ∈ nwL := nw_mem 1146 rfl rfl
set_option maxRecDepth 100000 in
theorem mk_L_231 : Cond.methodLink RL 231 yX4_maySit ∈ nwL := nw_mem 1150 rfl rfl
set_option maxRecDepth 100000 in
theorem mk_L_234 : Cond.methodLink RL 234 yX4_isOpen ∈ nwL := nw_mem 1154 rfl rfl
set_option maxRecDepth 100000 in
theorem mk_L_237 : Cond.methodLink RL 237 yX4_sit ∈ nwL := nw_mem 1158 rfl rfl
set_option maxRecDepth 100000 in
theorem mk_X4_178 : Cond.methodLink RX4 178 yX4_satCell ∈ nwL := nw_mem 1162 rfl rfl
set_option maxRecDepth 100000 in
theorem mk_L_240 : Cond.methodLink RL 240 yX4_hasSat ∈ nwL := nw_mem 1165 rfl rfl
set_option maxRecDepth 100000 in
theorem mk_L_243 : Cond.methodLink RL 243 yX4_more ∈ nwL := nw_mem 1169 rfl rfl
set_option maxRecDepth 100000 in
theorem mk_L_247 : Cond.methodLink RL 247 yX4_takenShare ∈ nwL := nw_mem 1173 rfl rfl
set_option maxRecDepth 100000 in
theorem mk_L_250 : Cond.methodLink RL 250 yX4_meanPoints ∈ nwL := nw_mem 1177 rfl rfl
set_option maxRecDepth 100000 in
theorem mk_L_255 : Cond.methodLink RL 255 yX4_isTrue ∈ nwL := nw_mem 1181 rfl rfl
set_option maxRecDepth 100000 in
theorem tw_X3_IllegalArgumentException : TW RX3 44 48 "java/lang/IllegalArgumentException" := ⟨by decide +kernel, by decide +kernel⟩
set_option maxRecDepth 100000 in
theorem tw_X3_IllegalStateException : TW RX3 55 59 "java/lang/IllegalStateException" := ⟨by decide +kernel, by decide +kernel⟩
set_option maxRecDepth 100000 in
theorem tw_X3_IndexOutOfBoundsException : TW RX3 74 78 "java/lang/IndexOutOfBoundsException" := ⟨by decide +kernel, by decide +kernel⟩
set_option maxRecDepth 100000 in
theorem tw_X3_UnsupportedOperationException : TW RX3 86 90 "java/lang/UnsupportedOperationException" := ⟨by decide +kernel, by decide +kernel⟩
set_option maxRecDepth 100000 in
theorem tw_X3_ArithmeticException : TW RX3 273 277 "java/lang/ArithmeticException" := ⟨by decide +kernel, by decide +kernel⟩
