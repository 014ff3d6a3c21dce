set_option maxRecDepth 100000 in
theorem mi_X1_rowOf : MSW yX1_rowOf cX1_rowOf 2 (some .int) 2 := ⟨nw_mem 80 rfl rfl, nw_mem 48 rfl rfl, nw_mem 81 rfl rfl, by decide +kernel, by decide +kernel, by decide +kernel⟩
set_option maxRecDepth 100000 in
theorem mi_X3_bids : MIW yX3_bids cX3_bids 1 (some .int) 0 := ⟨nw_mem 200 rfl rfl, nw_mem 201 rfl rfl, nw_mem 47 rfl rfl, nw_mem 202 rfl rfl, by decide +kernel, by decide +kernel, by decide +kernel⟩
set_option maxRecDepth 100000 in
theorem mi_X3_settle : MIW yX3_settle cX3_settle 3 (some .int) 0 := ⟨nw_mem 204 rfl rfl, nw_mem 205 rfl rfl, nw_mem 47 rfl rfl, nw_mem 206 rfl rfl, by decide +kernel, by decide +kernel, by decide +kernel⟩
set_option maxRecDepth 100000 in
theorem mi_X3_isSeatWon : MIW yX3_isSeatWon cX3_isSeatWon 4 (some .boolean) 3 := ⟨nw_mem 209 rfl rfl, nw_mem 0 rfl rfl, nw_mem 47 rfl rfl, nw_mem 210 rfl rfl, by decide +kernel, by decide +kernel, by decide +kernel⟩
set_option maxRecDepth 100000 in
theorem mi_X3_needsOnlySeat : MIW yX3_needsOnlySeat cX3_needsOnlySeat 4 (some .boolean) 3 := ⟨nw_mem 213 rfl rfl, nw_mem 1 rfl rfl, nw_mem 47 rfl rfl, nw_mem 214 rfl rfl, by decide +kernel, by decide +kernel, by decide +kernel⟩
set_option maxRecDepth 100000 in
theorem mi_X3_isClosed : MIW yX3_isClosed cX3_isClosed 2 (some .boolean) 1 := ⟨nw_mem 217 rfl rfl, nw_mem 2 rfl rfl, nw_mem 47 rfl rfl, nw_mem 218 rfl rfl, by decide +kernel, by decide +kernel, by decide +kernel⟩
set_option maxRecDepth 100000 in
theorem mi_X3_mayHaveSeat : MIW yX3_mayHaveSeat cX3_mayHaveSeat 3 (some .boolean) 2 := ⟨nw_mem 221 rfl rfl, nw_mem 3 rfl rfl, nw_mem 47 rfl rfl, nw_mem 222 rfl rfl, by decide +kernel, by decide +kernel, by decide +kernel⟩
set_option maxRecDepth 100000 in
theorem mi_X1_isRightGiven : MIW yX1_isRightGiven cX1_isRightGiven 4 (some .boolean) 2 := ⟨nw_mem 225 rfl rfl, nw_mem 4 rfl rfl, nw_mem 48 rfl rfl, nw_mem 226 rfl rfl, by decide +kernel, by decide +kernel, by decide +kernel⟩
set_option maxRecDepth 100000 in
theorem mi_X1_cellOf : MSW yX1_cellOf cX1_cellOf 2 (some .int) 2 := ⟨nw_mem 228 rfl rfl, nw_mem 48 rfl rfl, nw_mem 229 rfl rfl, by decide +kernel, by decide +kernel, by decide +kernel⟩
set_option maxRecDepth 100000 in
theorem mi_X1_isAgreed : MIW yX1_isAgreed cX1_isAgreed 5 (some .boolean) 2 := ⟨nw_mem 232 rfl rfl, nw_mem 5 rfl rfl, nw_mem 48 rfl rfl, nw_mem 233 rfl rfl, by decide +kernel, by decide +kernel, by decide +kernel⟩
set_option maxRecDepth 100000 in
theorem mi_X1_isResitOpen : MIW yX1_isResitOpen cX1_isResitOpen 5 (some .boolean) 2 := ⟨nw_mem 236 rfl rfl, nw_mem 6 rfl rfl, nw_mem 48 rfl rfl, nw_mem 237 rfl rfl, by decide +kernel, by decide +kernel, by decide +kernel⟩
set_option maxRecDepth 100000 in
theorem mi_X1_valueByOwner : MIW yX1_valueByOwner cX1_valueByOwner 4 (some .int) 3 := ⟨nw_mem 240 rfl rfl, nw_mem 7 rfl rfl, nw_mem 48 rfl rfl, nw_mem 241 rfl rfl, by decide +kernel, by decide +kernel, by decide +kernel⟩
set_option maxRecDepth 100000 in
theorem mi_X1_valueIn : MIW yX1_valueIn cX1_valueIn 5 (some .int) 4 := ⟨nw_mem 244 rfl rfl, nw_mem 8 rfl rfl, nw_mem 48 rfl rfl, nw_mem 245 rfl rfl, by decide +kernel, by decide +kernel, by decide +kernel⟩
set_option maxRecDepth 100000 in
theorem mi_X3_offerHeldFor : MIW yX3_offerHeldFor cX3_offerHeldFor 5 (some .int) 3 := ⟨nw_mem 248 rfl rfl, nw_mem 9 rfl rfl, nw_mem 47 rfl rfl, nw_mem 249 rfl rfl, by decide +kernel, by decide +kernel, by decide +kernel⟩
set_option maxRecDepth 100000 in
theorem mi_X0_isOf : MIW yX0_isOf cX0_isOf 3 (some .boolean) 2 := ⟨nw_mem 252 rfl rfl, nw_mem 10 rfl rfl, nw_mem 50 rfl rfl, nw_mem 253 rfl rfl, by decide +kernel, by decide +kernel, by decide +kernel⟩
set_option maxRecDepth 100000 in
theorem mi_X0_hasSeated : MIW yX0_hasSeated cX0_hasSeated 2 (some .boolean) 1 := ⟨nw_mem 256 rfl rfl, nw_mem 11 rfl rfl, nw_mem 50 rfl rfl, nw_mem 257 rfl rfl, by decide +kernel, by decide +kernel, by decide +kernel⟩
set_option maxRecDepth 100000 in
theorem mi_X3_offerHeldAt : MIW yX3_offerHeldAt cX3_offerHeldAt 4 (some .int) 2 := ⟨nw_mem 260 rfl rfl, nw_mem 12 rfl rfl, nw_mem 47 rfl rfl, nw_mem 261 rfl rfl, by decide +kernel, by decide +kernel, by decide +kernel⟩
set_option maxRecDepth 100000 in
theorem mi_X0_isFull : MIW yX0_isFull cX0_isFull 1 (some .boolean) 0 := ⟨nw_mem 264 rfl rfl, nw_mem 13 rfl rfl, nw_mem 50 rfl rfl, nw_mem 265 rfl rfl, by decide +kernel, by decide +kernel, by decide +kernel⟩
set_option maxRecDepth 100000 in
theorem mi_X0_countTaken : MIW yX0_countTaken cX0_countTaken 3 (some .int) 0 := ⟨nw_mem 268 rfl rfl, nw_mem 14 rfl rfl, nw_mem 50 rfl rfl, nw_mem 269 rfl rfl, by decide +kernel, by decide +kernel, by decide +kernel⟩
set_option maxRecDepth 100000 in
theorem mi_X0_letWait : MIW yX0_letWait cX0_letWait 3 none 2 := ⟨nw_mem 273 rfl rfl, nw_mem 15 rfl rfl, nw_mem 50 rfl rfl, nw_mem 274 rfl rfl, by decide +kernel, by decide +kernel, by decide +kernel⟩
set_option maxRecDepth 100000 in
theorem mi_X0_placeInQueue : MIW yX0_placeInQueue cX0_placeInQueue 3 (some .int) 1 := ⟨nw_mem 277 rfl rfl, nw_mem 16 rfl rfl, nw_mem 50 rfl rfl, nw_mem 278 rfl rfl, by decide +kernel, by decide +kernel, by decide +kernel⟩
set_option maxRecDepth 100000 in
theorem mi_X3_giveSeat : MIW yX3_giveSeat cX3_giveSeat 5 none 3 := ⟨nw_mem 281 rfl rfl, nw_mem 17 rfl rfl, nw_mem 47 rfl rfl, nw_mem 282 rfl rfl, by decide +kernel, by decide +kernel, by decide +kernel⟩
set_option maxRecDepth 100000 in
theorem mi_X0_letWaitNoMore : MIW yX0_letWaitNoMore cX0_letWaitNoMore 4 none 1 := ⟨nw_mem 285 rfl rfl, nw_mem 18 rfl rfl, nw_mem 50 rfl rfl, nw_mem 286 rfl rfl, by decide +kernel, by decide +kernel, by decide +kernel⟩
set_option maxRecDepth 100000 in
theorem mi_X3_rounds : MIW yX3_rounds cX3_rounds 1 (some .int) 0 := ⟨nw_mem 288 rfl rfl, nw_mem 289 rfl rfl, nw_mem 47 rfl rfl, nw_mem 290 rfl rfl, by decide +kernel, by decide +kernel, by decide +kernel⟩
set_option maxRecDepth 100000 in
theorem mi_X3_refunds : MIW yX3_refunds cX3_refunds 1 (some .int) 0 := ⟨nw_mem 292 rfl rfl, nw_mem 293 rfl rfl, nw_mem 47 rfl rfl, nw_mem 294 rfl rfl, by decide +kernel, by decide +kernel, by decide +kernel⟩
set_option maxRecDepth 100000 in
theorem mi_X3_isTrue : MIW yX3_isTrue cX3_isTrue 2 (some .boolean) 0 := ⟨nw_mem 296 rfl rfl, nw_mem 297 rfl rfl, nw_mem 47 rfl rfl, nw_mem 298 rfl rfl, by decide +kernel, by decide +kernel, by decide +kernel⟩
set_option maxRecDepth 100000 in
theorem mi_X3_hasSeatsThatClash : MIW yX3_hasSeatsThatClash cX3_hasSeatsThatClash 7 (some .boolean) 1 := ⟨nw_mem 301 rfl rfl, nw_mem 19 rfl rfl, nw_mem 47 rfl rfl, nw_mem 302 rfl rfl, by decide +kernel, by decide +kernel, by decide +kernel⟩
set_option maxRecDepth 100000 in
theorem mi_X3_arePointsWhole : MIW yX3_arePointsWhole cX3_arePointsWhole 4 (some .boolean) 1 := ⟨nw_mem 305 rfl rfl, nw_mem 20 rfl rfl, nw_mem 47 rfl rfl, nw_mem 306 rfl rfl, by decide +kernel, by decide +kernel, by decide +kernel⟩
set_option maxRecDepth 100000 in
theorem mi_X0_hasSeatedWaiter : MIW yX0_hasSeatedWaiter cX0_hasSeatedWaiter 2 (some .boolean) 0 := ⟨nw_mem 310 rfl rfl, nw_mem 21 rfl rfl, nw_mem 50 rfl rfl, nw_mem 311 rfl rfl, by decide +kernel, by decide +kernel, by decide +kernel⟩
set_option maxRecDepth 100000 in
theorem mi_X3_isRoomShared : MIW yX3_isRoomShared cX3_isRoomShared 3 (some .boolean) 1 := ⟨nw_mem 314 rfl rfl, nw_mem 22 rfl rfl, nw_mem 47 rfl rfl, nw_mem 315 rfl rfl, by decide +kernel, by decide +kernel, by decide +kernel⟩
set_option maxRecDepth 100000 in
theorem mi_X3_room : MIW yX3_room cX3_room 2 (some .int) 1 := ⟨nw_mem 404 rfl rfl, nw_mem 405 rfl rfl, nw_mem 47 rfl rfl, nw_mem 406 rfl rfl, by decide +kernel, by decide +kernel, by decide +kernel⟩
set_option maxRecDepth 100000 in
theorem mi_X3_exam : MIW yX3_exam cX3_exam 1 (some .int) 0 := ⟨nw_mem 440 rfl rfl, nw_mem 441 rfl rfl, nw_mem 47 rfl rfl, nw_mem 442 rfl rfl, by decide +kernel, by decide +kernel, by decide +kernel⟩
set_option maxRecDepth 100000 in
theorem mi_X3_pupil : MIW yX3_pupil cX3_pupil 1 (some .int) 0 := ⟨nw_mem 445 rfl rfl, nw_mem 446 rfl rfl, nw_mem 47 rfl rfl, nw_mem 447 rfl rfl, by decide +kernel, by decide +kernel, by decide +kernel⟩
set_option maxRecDepth 100000 in
theorem mi_X3_offer : MIW yX3_offer cX3_offer 5 (some .int) 4 := ⟨nw_mem 450 rfl rfl, nw_mem 451 rfl rfl, nw_mem 47 rfl rfl, nw_mem 452 rfl rfl, by decide +kernel, by decide +kernel, by decide +kernel⟩
set_option maxRecDepth 100000 in
theorem mi_X3_needExam : MIW yX3_needExam cX3_needExam 2 none 1 := ⟨nw_mem 455 rfl rfl, nw_mem 24 rfl rfl, nw_mem 47 rfl rfl, nw_mem 456 rfl rfl, by decide +kernel, by decide +kernel, by decide +kernel⟩
set_option maxRecDepth 100000 in
theorem mi_X3_needSlot : MSW yX3_needSlot cX3_needSlot 1 none 1 := ⟨nw_mem 472 rfl rfl, nw_mem 47 rfl rfl, nw_mem 473 rfl rfl, by decide +kernel, by decide +kernel, by decide +kernel⟩
set_option maxRecDepth 100000 in
theorem mi_X3_isRoomTaken : MIW yX3_isRoomTaken cX3_isRoomTaken 4 (some .boolean) 2 := ⟨nw_mem 477 rfl rfl, nw_mem 25 rfl rfl, nw_mem 47 rfl rfl, nw_mem 478 rfl rfl, by decide +kernel, by decide +kernel, by decide +kernel⟩
set_option maxRecDepth 100000 in
theorem mi_X0_open : MIW yX0_open cX0_open 6 none 5 := ⟨nw_mem 498 rfl rfl, nw_mem 26 rfl rfl, nw_mem 50 rfl rfl, nw_mem 499 rfl rfl, by decide +kernel, by decide +kernel, by decide +kernel⟩
set_option maxRecDepth 100000 in
theorem mi_X3_bid : MIW yX3_bid cX3_bid 6 (some .int) 3 := ⟨nw_mem 501 rfl rfl, nw_mem 502 rfl rfl, nw_mem 47 rfl rfl, nw_mem 503 rfl rfl, by decide +kernel, by decide +kernel, by decide +kernel⟩
set_option maxRecDepth 100000 in
theorem mi_X3_needPupil : MIW yX3_needPupil cX3_needPupil 2 none 1 := ⟨nw_mem 506 rfl rfl, nw_mem 27 rfl rfl, nw_mem 47 rfl rfl, nw_mem 507 rfl rfl, by decide +kernel, by decide +kernel, by decide +kernel⟩
set_option maxRecDepth 100000 in
theorem mi_X3_offerNumbered : MIW yX3_offerNumbered cX3_offerNumbered 2 (some (.object "Classfederation$Offer")) 1 := ⟨nw_mem 511 rfl rfl, nw_mem 28 rfl rfl, nw_mem 47 rfl rfl, nw_mem 512 rfl rfl, by decide +kernel, by decide +kernel, by decide +kernel⟩
set_option maxRecDepth 100000 in
theorem mi_X3_needOffer : MIW yX3_needOffer cX3_needOffer 2 none 1 := ⟨nw_mem 515 rfl rfl, nw_mem 29 rfl rfl, nw_mem 47 rfl rfl, nw_mem 516 rfl rfl, by decide +kernel, by decide +kernel, by decide +kernel⟩
set_option maxRecDepth 100000 in
theorem mi_X2_sumOf : MIW yX2_sumOf cX2_sumOf 4 (some .int) 1 := ⟨nw_mem 521 rfl rfl, nw_mem 30 rfl rfl, nw_mem 49 rfl rfl, nw_mem 522 rfl rfl, by decide +kernel, by decide +kernel, by decide +kernel⟩
set_option maxRecDepth 100000 in
theorem mi_X2_pointsBid : MIW yX2_pointsBid cX2_pointsBid 4 (some .int) 2 := ⟨nw_mem 525 rfl rfl, nw_mem 31 rfl rfl, nw_mem 49 rfl rfl, nw_mem 526 rfl rfl, by decide +kernel, by decide +kernel, by decide +kernel⟩
set_option maxRecDepth 100000 in
theorem mi_X2_placeOf : MIW yX2_placeOf cX2_placeOf 4 (some .int) 2 := ⟨nw_mem 529 rfl rfl, nw_mem 32 rfl rfl, nw_mem 49 rfl rfl, nw_mem 530 rfl rfl, by decide +kernel, by decide +kernel, by decide +kernel⟩
set_option maxRecDepth 100000 in
theorem mi_X2_takeOut : MIW yX2_takeOut cX2_takeOut 5 none 2 := ⟨nw_mem 534 rfl rfl, nw_mem 33 rfl rfl, nw_mem 49 rfl rfl, nw_mem 535 rfl rfl, by decide +kernel, by decide +kernel, by decide +kernel⟩
set_option maxRecDepth 100000 in
theorem mi_X2_tell : MIW yX2_tell cX2_tell 5 none 3 := ⟨nw_mem 538 rfl rfl, nw_mem 34 rfl rfl, nw_mem 49 rfl rfl, nw_mem 539 rfl rfl, by decide +kernel, by decide +kernel, by decide +kernel⟩
set_option maxRecDepth 100000 in
theorem mi_X3_unbid : MIW yX3_unbid cX3_unbid 4 (some .int) 2 := ⟨nw_mem 541 rfl rfl, nw_mem 542 rfl rfl, nw_mem 47 rfl rfl, nw_mem 543 rfl rfl, by decide +kernel, by decide +kernel, by decide +kernel⟩
set_option maxRecDepth 100000 in
theorem mi_X3_points : MIW yX3_points cX3_points 2 (some .int) 1 := ⟨nw_mem 561 rfl rfl, nw_mem 562 rfl rfl, nw_mem 47 rfl rfl, nw_mem 563 rfl rfl, by decide +kernel, by decide +kernel, by decide +kernel⟩
set_option maxRecDepth 100000 in
theorem mi_X3_seat : MIW yX3_seat cX3_seat 5 (some .int) 3 := ⟨nw_mem 565 rfl rfl, nw_mem 566 rfl rfl, nw_mem 47 rfl rfl, nw_mem 567 rfl rfl, by decide +kernel, by decide +kernel, by decide +kernel⟩
set_option maxRecDepth 100000 in
theorem mi_X3_at : MIW yX3_at cX3_at 3 (some .int) 2 := ⟨nw_mem 570 rfl rfl, nw_mem 571 rfl rfl, nw_mem 47 rfl rfl, nw_mem 572 rfl rfl, by decide +kernel, by decide +kernel, by decide +kernel⟩
set_option maxRecDepth 100000 in
theorem mi_X3_examHeldAt : MIW yX3_examHeldAt cX3_examHeldAt 4 (some .int) 2 := ⟨nw_mem 575 rfl rfl, nw_mem 35 rfl rfl, nw_mem 47 rfl rfl, nw_mem 576 rfl rfl, by decide +kernel, by decide +kernel, by decide +kernel⟩
set_option maxRecDepth 100000 in
theorem mi_X3_holders : MIW yX3_holders cX3_holders 2 (some .int) 1 := ⟨nw_mem 579 rfl rfl, nw_mem 580 rfl rfl, nw_mem 47 rfl rfl, nw_mem 581 rfl rfl, by decide +kernel, by decide +kernel, by decide +kernel⟩
set_option maxRecDepth 100000 in
theorem mi_X3_holder : MIW yX3_holder cX3_holder 4 (some .int) 2 := ⟨nw_mem 583 rfl rfl, nw_mem 584 rfl rfl, nw_mem 47 rfl rfl, nw_mem 585 rfl rfl, by decide +kernel, by decide +kernel, by decide +kernel⟩
set_option maxRecDepth 100000 in
theorem mi_X0_pupilSeated : MIW yX0_pupilSeated cX0_pupilSeated 4 (some .int) 1 := ⟨nw_mem 588 rfl rfl, nw_mem 36 rfl rfl, nw_mem 50 rfl rfl, nw_mem 589 rfl rfl, by decide +kernel, by decide +kernel, by decide +kernel⟩
set_option maxRecDepth 100000 in
theorem mi_X3_paid : MIW yX3_paid cX3_paid 4 (some .int) 2 := ⟨nw_mem 592 rfl rfl, nw_mem 593 rfl rfl, nw_mem 47 rfl rfl, nw_mem 594 rfl rfl, by decide +kernel, by decide +kernel, by decide +kernel⟩
set_option maxRecDepth 100000 in
theorem mi_X3_waiting : MIW yX3_waiting cX3_waiting 2 (some .int) 1 := ⟨nw_mem 597 rfl rfl, nw_mem 598 rfl rfl, nw_mem 47 rfl rfl, nw_mem 599 rfl rfl, by decide +kernel, by decide +kernel, by decide +kernel⟩
set_option maxRecDepth 100000 in
theorem mi_X3_waiter : MIW yX3_waiter cX3_waiter 4 (some .int) 2 := ⟨nw_mem 601 rfl rfl, nw_mem 602 rfl rfl, nw_mem 47 rfl rfl, nw_mem 603 rfl rfl, by decide +kernel, by decide +kernel, by decide +kernel⟩
set_option maxRecDepth 100000 in
theorem mi_X3_giveUp : MIW yX3_giveUp cX3_giveUp 6 (some .int) 2 := ⟨nw_mem 606 rfl rfl, nw_mem 607 rfl rfl, nw_mem 47 rfl rfl, nw_mem 608 rfl rfl, by decide +kernel, by decide +kernel, by decide +kernel⟩
set_option maxRecDepth 100000 in
theorem mi_X0_unseat : MIW yX0_unseat cX0_unseat 3 (some .int) 1 := ⟨nw_mem 612 rfl rfl, nw_mem 37 rfl rfl, nw_mem 50 rfl rfl, nw_mem 613 rfl rfl, by decide +kernel, by decide +kernel, by decide +kernel⟩
set_option maxRecDepth 100000 in
theorem mi_X3_payBack : MIW yX3_payBack cX3_payBack 3 none 2 := ⟨nw_mem 616 rfl rfl, nw_mem 38 rfl rfl, nw_mem 47 rfl rfl, nw_mem 617 rfl rfl, by decide +kernel, by decide +kernel, by decide +kernel⟩
set_option maxRecDepth 100000 in
theorem mi_X3_moveOneUp : MIW yX3_moveOneUp cX3_moveOneUp 5 (some .int) 1 := ⟨nw_mem 620 rfl rfl, nw_mem 39 rfl rfl, nw_mem 47 rfl rfl, nw_mem 621 rfl rfl, by decide +kernel, by decide +kernel, by decide +kernel⟩
set_option maxRecDepth 100000 in
theorem mi_X3_move : MIW yX3_move cX3_move 6 (some .int) 2 := ⟨nw_mem 623 rfl rfl, nw_mem 624 rfl rfl, nw_mem 47 rfl rfl, nw_mem 625 rfl rfl, by decide +kernel, by decide +kernel, by decide +kernel⟩
set_option maxRecDepth 100000 in
theorem mi_X3_isSeatLostByMove : MIW yX3_isSeatLostByMove cX3_isSeatLostByMove 5 (some .boolean) 3 := ⟨nw_mem 629 rfl rfl, nw_mem 40 rfl rfl, nw_mem 47 rfl rfl, nw_mem 630 rfl rfl, by decide +kernel, by decide +kernel, by decide +kernel⟩
set_option maxRecDepth 100000 in
theorem mi_X3_slotOf : MIW yX3_slotOf cX3_slotOf 2 (some .int) 1 := ⟨nw_mem 632 rfl rfl, nw_mem 633 rfl rfl, nw_mem 47 rfl rfl, nw_mem 634 rfl rfl, by decide +kernel, by decide +kernel, by decide +kernel⟩
set_option maxRecDepth 100000 in
theorem mi_X3_write : MIW yX3_write cX3_write 8 (some .int) 5 := ⟨nw_mem 636 rfl rfl, nw_mem 637 rfl rfl, nw_mem 47 rfl rfl, nw_mem 638 rfl rfl, by decide +kernel, by decide +kernel, by decide +kernel⟩
set_option maxRecDepth 100000 in
theorem mi_X3_needStore : MSW yX3_needStore cX3_needStore 1 none 1 := ⟨nw_mem 640 rfl rfl, nw_mem 47 rfl rfl, nw_mem 641 rfl rfl, by decide +kernel, by decide +kernel, by decide +kernel⟩
set_option maxRecDepth 100000 in
theorem mi_X3_fieldNumbered : MSW yX3_fieldNumbered cX3_fieldNumbered 1 (some .int) 1 := ⟨nw_mem 644 rfl rfl, nw_mem 47 rfl rfl, nw_mem 645 rfl rfl, by decide +kernel, by decide +kernel, by decide +kernel⟩
set_option maxRecDepth 100000 in
theorem mi_X1_isInRange : MSW yX1_isInRange cX1_isInRange 2 (some .boolean) 2 := ⟨nw_mem 648 rfl rfl, nw_mem 48 rfl rfl, nw_mem 649 rfl rfl, by decide +kernel, by decide +kernel, by decide +kernel⟩
set_option maxRecDepth 100000 in
theorem mi_X1_put : MIW yX1_put cX1_put 6 none 5 := ⟨nw_mem 654 rfl rfl, nw_mem 41 rfl rfl, nw_mem 48 rfl rfl, nw_mem 655 rfl rfl, by decide +kernel, by decide +kernel, by decide +kernel⟩
set_option maxRecDepth 100000 in
theorem mi_X3_read : MIW yX3_read cX3_read 5 (some .int) 4 := ⟨nw_mem 657 rfl rfl, nw_mem 658 rfl rfl, nw_mem 47 rfl rfl, nw_mem 659 rfl rfl, by decide +kernel, by decide +kernel, by decide +kernel⟩
set_option maxRecDepth 100000 in
theorem mi_X3_sync : MIW yX3_sync cX3_sync 3 (some .int) 2 := ⟨nw_mem 661 rfl rfl, nw_mem 662 rfl rfl, nw_mem 47 rfl rfl, nw_mem 663 rfl rfl, by decide +kernel, by decide +kernel, by decide +kernel⟩
set_option maxRecDepth 100000 in
theorem mi_X1_copyOwned : MIW yX1_copyOwned cX1_copyOwned 5 (some .int) 2 := ⟨nw_mem 667 rfl rfl, nw_mem 42 rfl rfl, nw_mem 48 rfl rfl, nw_mem 668 rfl rfl, by decide +kernel, by decide +kernel, by decide +kernel⟩
set_option maxRecDepth 100000 in
theorem mi_X1_copyRow : MSW yX1_copyRow cX1_copyRow 4 (some .int) 2 := ⟨nw_mem 670 rfl rfl, nw_mem 48 rfl rfl, nw_mem 671 rfl rfl, by decide +kernel, by decide +kernel, by decide +kernel⟩
set_option maxRecDepth 100000 in
theorem mi_X3_owner : MIW yX3_owner cX3_owner 2 (some .int) 1 := ⟨nw_mem 673 rfl rfl, nw_mem 674 rfl rfl, nw_mem 47 rfl rfl, nw_mem 675 rfl rfl, by decide +kernel, by decide +kernel, by decide +kernel⟩
set_option maxRecDepth 100000 in
theorem mi_X3_setOwner : MIW yX3_setOwner cX3_setOwner 5 (some .int) 2 := ⟨nw_mem 677 rfl rfl, nw_mem 678 rfl rfl, nw_mem 47 rfl rfl, nw_mem 679 rfl rfl, by decide +kernel, by decide +kernel, by decide +kernel⟩
set_option maxRecDepth 100000 in
theorem mi_X1_areSame : MIW yX1_areSame cX1_areSame 5 (some .boolean) 3 := ⟨nw_mem 682 rfl rfl, nw_mem 43 rfl rfl, nw_mem 48 rfl rfl, nw_mem 683 rfl rfl, by decide +kernel, by decide +kernel, by decide +kernel⟩
set_option maxRecDepth 100000 in
theorem mi_X3_apart : MIW yX3_apart cX3_apart 2 (some .int) 1 := ⟨nw_mem 686 rfl rfl, nw_mem 687 rfl rfl, nw_mem 47 rfl rfl, nw_mem 688 rfl rfl, by decide +kernel, by decide +kernel, by decide +kernel⟩
set_option maxRecDepth 100000 in
theorem mi_X1_countApart : MIW yX1_countApart cX1_countApart 4 (some .int) 1 := ⟨nw_mem 691 rfl rfl, nw_mem 44 rfl rfl, nw_mem 48 rfl rfl, nw_mem 692 rfl rfl, by decide +kernel, by decide +kernel, by decide +kernel⟩
set_option maxRecDepth 100000 in
theorem mi_X3_maySit : MIW yX3_maySit cX3_maySit 3 (some .boolean) 2 := ⟨nw_mem 694 rfl rfl, nw_mem 695 rfl rfl, nw_mem 47 rfl rfl, nw_mem 696 rfl rfl, by decide +kernel, by decide +kernel, by decide +kernel⟩
set_option maxRecDepth 100000 in
theorem mi_X3_isOpen : MIW yX3_isOpen cX3_isOpen 3 (some .boolean) 2 := ⟨nw_mem 698 rfl rfl, nw_mem 699 rfl rfl, nw_mem 47 rfl rfl, nw_mem 700 rfl rfl, by decide +kernel, by decide +kernel, by decide +kernel⟩
set_option maxRecDepth 100000 in
theorem mi_X3_sit : MIW yX3_sit cX3_sit 4 (some .int) 1 := ⟨nw_mem 702 rfl rfl, nw_mem 703 rfl rfl, nw_mem 47 rfl rfl, nw_mem 704 rfl rfl, by decide +kernel, by decide +kernel, by decide +kernel⟩
set_option maxRecDepth 100000 in
theorem mi_X3_letSit : MIW yX3_letSit cX3_letSit 4 (some .int) 1 := ⟨nw_mem 708 rfl rfl, nw_mem 45 rfl rfl, nw_mem 47 rfl rfl, nw_mem 709 rfl rfl, by decide +kernel, by decide +kernel, by decide +kernel⟩
set_option maxRecDepth 100000 in
theorem mi_X3_hasSat : MIW yX3_hasSat cX3_hasSat 5 (some .boolean) 3 := ⟨nw_mem 711 rfl rfl, nw_mem 712 rfl rfl, nw_mem 47 rfl rfl, nw_mem 713 rfl rfl, by decide +kernel, by decide +kernel, by decide +kernel⟩
set_option maxRecDepth 100000 in
theorem mi_X3_more : MIW yX3_more cX3_more 3 (some .int) 2 := ⟨nw_mem 715 rfl rfl, nw_mem 716 rfl rfl, nw_mem 47 rfl rfl, nw_mem 717 rfl rfl, by decide +kernel, by decide +kernel, by decide +kernel⟩
set_option maxRecDepth 100000 in
theorem mi_X3_takenShare : MIW yX3_takenShare cX3_takenShare 4 (some .float) 0 := ⟨nw_mem 741 rfl rfl, nw_mem 742 rfl rfl, nw_mem 47 rfl rfl, nw_mem 743 rfl rfl, by decide +kernel, by decide +kernel, by decide +kernel⟩
set_option maxRecDepth 100000 in
theorem mi_X3_meanPoints : MIW yX3_meanPoints cX3_meanPoints 3 (some .double) 0 := ⟨nw_mem 748 rfl rfl, nw_mem 749 rfl rfl, nw_mem 47 rfl rfl, nw_mem 750 rfl rfl, by decide +kernel, by decide +kernel, by decide +kernel⟩
set_option maxRecDepth 100000 in
theorem mi_L_full : MSW yL_full cL_full 2 (some .boolean) 0 := ⟨nw_mem 753 rfl rfl, nw_mem 46 rfl rfl, nw_mem 754 rfl rfl, by decide +kernel, by decide +kernel, by decide +kernel⟩
set_option maxRecDepth 100000 in
theorem mi_L_rights : MSW yL_rights cL_rights 11 (some .boolean) 1 := ⟨nw_mem 757 rfl rfl, nw_mem 46 rfl rfl, nw_mem 758 rfl rfl, by decide +kernel, by decide +kernel, by decide +kernel⟩
set_option maxRecDepth 100000 in
theorem mi_L_at : MSW yL_at cL_at 2 (some .int) 2 := ⟨nw_mem 760 rfl rfl, nw_mem 46 rfl rfl, nw_mem 761 rfl rfl, by decide +kernel, by decide +kernel, by decide +kernel⟩
set_option maxRecDepth 100000 in
theorem mi_L_some : MSW yL_some cL_some 3 (some .int) 2 := ⟨nw_mem 763 rfl rfl, nw_mem 46 rfl rfl, nw_mem 764 rfl rfl, by decide +kernel, by decide +kernel, by decide +kernel⟩
set_option maxRecDepth 100000 in
theorem mi_L_closed : MSW yL_closed cL_closed 5 (some .boolean) 1 := ⟨nw_mem 769 rfl rfl, nw_mem 46 rfl rfl, nw_mem 770 rfl rfl, by decide +kernel, by decide +kernel, by decide +kernel⟩
set_option maxRecDepth 100000 in
theorem mk_L_132 : Cond.methodLink RL 132 yX3_init ∈ nwL := nw_mem 65 rfl rfl
set_option maxRecDepth 100000 in
theorem mk_X3_9 : Cond.methodLinkNest RX3 9 yX1_init "Classfederation" ∈ nwL := nw_mem 73 rfl rfl
set_option maxRecDepth 100000 in
theorem mk_X1_16 : Cond.methodLink RX1 16 yX1_rowOf ∈ nwL := nw_mem 79 rfl rfl
set_option maxRecDepth 100000 in
theorem fk_X1_13 : FLk RX1 13 RX1 "values" "[[I" := Or.inl (nw_mem 82 rfl rfl)
set_option maxRecDepth 100000 in
theorem fk_X1_20 : FLk RX1 20 RX1 "owners" "[I" := Or.inl (nw_mem 83 rfl rfl)
set_option maxRecDepth 100000 in
theorem fk_X3_246 : FLk RX3 246 RX1 "owners" "[I" := Or.inr ⟨"Classfederation", nw_mem 84 rfl rfl⟩
set_option maxRecDepth 100000 in
theorem mk_X3_18 : Cond.methodLinkNest RX3 18 yX2_init "Classfederation" ∈ nwL := nw_mem 93 rfl rfl
set_option maxRecDepth 100000 in
theorem fk_X2_11 : FLk RX2 11 RX2 "pupils" "[I" := Or.inl (nw_mem 97 rfl rfl)
set_option maxRecDepth 100000 in
theorem fk_X3_145 : FLk RX3 145 RX2 "pupils" "[I" := Or.inr ⟨"Classfederation", nw_mem 98 rfl rfl⟩
set_option maxRecDepth 100000 in
theorem fk_X2_15 : FLk RX2 15 RX2 "offers" "[I" := Or.inl (nw_mem 99 rfl rfl)
set_option maxRecDepth 100000 in
theorem fk_X3_148 : FLk RX3 148 RX2 "offers" "[I" := Or.inr ⟨"Classfederation", nw_mem 100 rfl rfl⟩
set_option maxRecDepth 100000 in
theorem fk_X2_18 : FLk RX2 18 RX2 "points" "[I" := Or.inl (nw_mem 101 rfl rfl)
set_option maxRecDepth 100000 in
theorem fk_X3_150 : FLk RX3 150 RX2 "points" "[I" := Or.inr ⟨"Classfederation", nw_mem 102 rfl rfl⟩
set_option maxRecDepth 100000 in
theorem fk_X2_21 : FLk RX2 21 RX2 "count" "I" := Or.inl (nw_mem 103 rfl rfl)
set_option maxRecDepth 100000 in
theorem fk_X3_142 : FLk RX3 142 RX2 "count" "I" := Or.inr ⟨"Classfederation", nw_mem 104 rfl rfl⟩
set_option maxRecDepth 100000 in
theorem mk_X3_29 : Cond.methodLinkNest RX3 29 yX0_init "Classfederation" ∈ nwL := nw_mem 117 rfl rfl
set_option maxRecDepth 100000 in
theorem fk_X0_21 : FLk RX0 21 RX0 "exam" "I" := Or.inl (nw_mem 121 rfl rfl)
set_option maxRecDepth 100000 in
theorem fk_X3_314 : FLk RX3 314 RX0 "exam" "I" := Or.inr ⟨"Classfederation", nw_mem 122 rfl rfl⟩
set_option maxRecDepth 100000 in
theorem fk_X0_25 : FLk RX0 25 RX0 "slot" "I" := Or.inl (nw_mem 123 rfl rfl)
set_option maxRecDepth 100000 in
theorem fk_X3_104 : FLk RX3 104 RX0 "slot" "I" := Or.inr ⟨"Classfederation", nw_mem 124 rfl rfl⟩
set_option maxRecDepth 100000 in
theorem fk_X0_28 : FLk RX0 28 RX0 "room" "I" := Or.inl (nw_mem 125 rfl rfl)
set_option maxRecDepth 100000 in
theorem fk_X3_207 : FLk RX3 207 RX0 "room" "I" := Or.inr ⟨"Classfederation", nw_mem 126 rfl rfl⟩
set_option maxRecDepth 100000 in
theorem fk_X0_31 : FLk RX0 31 RX0 "seats" "I" := Or.inl (nw_mem 127 rfl rfl)
set_option maxRecDepth 100000 in
theorem fk_X3_215 : FLk RX3 215 RX0 "seats" "I" := Or.inr ⟨"Classfederation", nw_mem 128 rfl rfl⟩
set_option maxRecDepth 100000 in
theorem fk_X0_34 : FLk RX0 34 RX0 "isResit" "Z" := Or.inl (nw_mem 129 rfl rfl)
set_option maxRecDepth 100000 in
theorem fk_X3_317 : FLk RX3 317 RX0 "isResit" "Z" := Or.inr ⟨"Classfederation", nw_mem 130 rfl rfl⟩
set_option maxRecDepth 100000 in
theorem fk_X0_9 : FLk RX0 9 RX0 "paidBy" "[I" := Or.inl (nw_mem 131 rfl rfl)
set_option maxRecDepth 100000 in
theorem fk_X3_184 : FLk RX3 184 RX0 "paidBy" "[I" := Or.inr ⟨"Classfederation", nw_mem 132 rfl rfl⟩
set_option maxRecDepth 100000 in
theorem fk_X0_15 : FLk RX0 15 RX0 "waiters" "[I" := Or.inl (nw_mem 133 rfl rfl)
set_option maxRecDepth 100000 in
theorem fk_X3_192 : FLk RX3 192 RX0 "waiters" "[I" := Or.inr ⟨"Classfederation", nw_mem 134 rfl rfl⟩
set_option maxRecDepth 100000 in
theorem fk_X0_18 : FLk RX0 18 RX0 "waiterPoints" "[I" := Or.inl (nw_mem 135 rfl rfl)
set_option maxRecDepth 100000 in
theorem fk_X3_341 : FLk RX3 341 RX0 "waiterPoints" "[I" := Or.inr ⟨"Classfederation", nw_mem 136 rfl rfl⟩
set_option maxRecDepth 100000 in
theorem fk_X0_46 : FLk RX0 46 RX0 "waiterCount" "I" := Or.inl (nw_mem 137 rfl rfl)
set_option maxRecDepth 100000 in
theorem fk_X3_187 : FLk RX3 187 RX0 "waiterCount" "I" := Or.inr ⟨"Classfederation", nw_mem 138 rfl rfl⟩
set_option maxRecDepth 100000 in
theorem fk_X3_10 : FLk RX3 10 RX3 "records" "LClassfederation$Records;" := Or.inl (nw_mem 158 rfl rfl)
set_option maxRecDepth 100000 in
theorem fk_X3_19 : FLk RX3 19 RX3 "round" "LClassfederation$Round;" := Or.inl (nw_mem 159 rfl rfl)
set_option maxRecDepth 100000 in
theorem fk_X3_25 : FLk RX3 25 RX3 "offers" "[LClassfederation$Offer;" := Or.inl (nw_mem 160 rfl rfl)
set_option maxRecDepth 100000 in
theorem fk_X3_30 : FLk RX3 30 RX3 "seatsOfRoom" "[I" := Or.inl (nw_mem 161 rfl rfl)
set_option maxRecDepth 100000 in
theorem fk_X3_34 : FLk RX3 34 RX3 "pointsLeft" "[I" := Or.inl (nw_mem 162 rfl rfl)
set_option maxRecDepth 100000 in
theorem fk_X3_37 : FLk RX3 37 RX3 "forfeited" "[I" := Or.inl (nw_mem 163 rfl rfl)
set_option maxRecDepth 100000 in
theorem fk_X3_40 : FLk RX3 40 RX3 "slotWasSat" "[Z" := Or.inl (nw_mem 164 rfl rfl)
set_option maxRecDepth 100000 in
theorem fk_X3_51 : FLk RX3 51 RX3 "roomCount" "I" := Or.inl (nw_mem 165 rfl rfl)
set_option maxRecDepth 100000 in
theorem fk_X3_60 : FLk RX3 60 RX3 "examCount" "I" := Or.inl (nw_mem 166 rfl rfl)
set_option maxRecDepth 100000 in
theorem fk_X3_65 : FLk RX3 65 RX3 "pupilCount" "I" := Or.inl (nw_mem 167 rfl rfl)
set_option maxRecDepth 100000 in
theorem fk_X3_91 : FLk RX3 91 RX3 "offerCount" "I" := Or.inl (nw_mem 168 rfl rfl)
set_option maxRecDepth 100000 in
theorem fk_X3_157 : FLk RX3 157 RX3 "settledRounds" "I" := Or.inl (nw_mem 169 rfl rfl)
set_option maxRecDepth 100000 in
theorem fk_X3_218 : FLk RX3 218 RX3 "refundSum" "I" := Or.inl (nw_mem 170 rfl rfl)
set_option maxRecDepth 100000 in
theorem mk_L_137 : Cond.methodLink RL 137 yX3_bids ∈ nwL := nw_mem 199 rfl rfl
set_option maxRecDepth 100000 in
theorem mk_L_140 : Cond.methodLink RL 140 yX3_settle ∈ nwL := nw_mem 203 rfl rfl
set_option maxRecDepth 100000 in
theorem mk_X3_153 : Cond.methodLink RX3 153 yX3_isSeatWon ∈ nwL := nw_mem 207 rfl rfl
set_option maxRecDepth 100000 in
theorem mk_X3_325 : Cond.methodLink RX3 325 yX3_needsOnlySeat ∈ nwL := nw_mem 211 rfl rfl
set_option maxRecDepth 100000 in
theorem mk_X3_120 : Cond.methodLink RX3 120 yX3_isClosed ∈ nwL := nw_mem 215 rfl rfl
set_option maxRecDepth 100000 in
theorem mk_X3_321 : Cond.methodLink RX3 321 yX3_mayHaveSeat ∈ nwL := nw_mem 219 rfl rfl
set_option maxRecDepth 100000 in
theorem mk_X3_258 : Cond.methodLinkNest RX3 258 yX1_isRightGiven "Classfederation" ∈ nwL := nw_mem 223 rfl rfl
set_option maxRecDepth 100000 in
theorem mk_X1_24 : Cond.methodLink RX1 24 yX1_cellOf ∈ nwL := nw_mem 227 rfl rfl
set_option maxRecDepth 100000 in
theorem mk_X1_35 : Cond.methodLink RX1 35 yX1_isAgreed ∈ nwL := nw_mem 230 rfl rfl
set_option maxRecDepth 100000 in
theorem mk_X3_261 : Cond.methodLinkNest RX3 261 yX1_isResitOpen "Classfederation" ∈ nwL := nw_mem 234 rfl rfl
set_option maxRecDepth 100000 in
theorem mk_X3_269 : Cond.methodLinkNest RX3 269 yX1_valueByOwner "Classfederation" ∈ nwL := nw_mem 238 rfl rfl
set_option maxRecDepth 100000 in
theorem mk_X1_27 : Cond.methodLink RX1 27 yX1_valueIn ∈ nwL := nw_mem 242 rfl rfl
set_option maxRecDepth 100000 in
theorem mk_X3_160 : Cond.methodLink RX3 160 yX3_offerHeldFor ∈ nwL := nw_mem 246 rfl rfl
set_option maxRecDepth 100000 in
theorem mk_X3_305 : Cond.methodLinkNest RX3 305 yX0_isOf "Classfederation" ∈ nwL := nw_mem 250 rfl rfl
set_option maxRecDepth 100000 in
theorem mk_X3_178 : Cond.methodLinkNest RX3 178 yX0_hasSeated "Classfederation" ∈ nwL := nw_mem 254 rfl rfl
set_option maxRecDepth 100000 in
theorem mk_X3_309 : Cond.methodLink RX3 309 yX3_offerHeldAt ∈ nwL := nw_mem 258 rfl rfl
set_option maxRecDepth 100000 in
theorem mk_X3_328 : Cond.methodLinkNest RX3 328 yX0_isFull "Classfederation" ∈ nwL := nw_mem 262 rfl rfl
set_option maxRecDepth 100000 in
theorem mk_X0_42 : Cond.methodLink RX0 42 yX0_countTaken ∈ nwL := nw_mem 266 rfl rfl
set_option maxRecDepth 100000 in
theorem mk_X0_38 : Cond.methodLink RX0 38 yX0_hasSeated ∈ nwL := nw_mem 270 rfl rfl
set_option maxRecDepth 100000 in
theorem mk_X3_331 : Cond.methodLinkNest RX3 331 yX0_letWait "Classfederation" ∈ nwL := nw_mem 271 rfl rfl
set_option maxRecDepth 100000 in
theorem mk_X0_49 : Cond.methodLink RX0 49 yX0_placeInQueue ∈ nwL := nw_mem 275 rfl rfl
set_option maxRecDepth 100000 in
theorem mk_X3_334 : Cond.methodLink RX3 334 yX3_giveSeat ∈ nwL := nw_mem 279 rfl rfl
set_option maxRecDepth 100000 in
theorem mk_X3_338 : Cond.methodLinkNest RX3 338 yX0_letWaitNoMore "Classfederation" ∈ nwL := nw_mem 283 rfl rfl
set_option maxRecDepth 100000 in
theorem mk_L_143 : Cond.methodLink RL 143 yX3_rounds ∈ nwL := nw_mem 287 rfl rfl
set_option maxRecDepth 100000 in
theorem mk_L_146 : Cond.methodLink RL 146 yX3_refunds ∈ nwL := nw_mem 291 rfl rfl
set_option maxRecDepth 100000 in
theorem mk_L_149 : Cond.methodLink RL 149 yX3_isTrue ∈ nwL := nw_mem 295 rfl rfl
set_option maxRecDepth 100000 in
theorem mk_X3_280 : Cond.methodLink RX3 280 yX3_hasSeatsThatClash ∈ nwL := nw_mem 299 rfl rfl
set_option maxRecDepth 100000 in
theorem mk_X3_283 : Cond.methodLink RX3 283 yX3_arePointsWhole ∈ nwL := nw_mem 303 rfl rfl
set_option maxRecDepth 100000 in
theorem mk_X3_169 : Cond.methodLinkNest RX3 169 yX0_countTaken "Classfederation" ∈ nwL := nw_mem 307 rfl rfl
set_option maxRecDepth 100000 in
theorem mk_X3_286 : Cond.methodLinkNest RX3 286 yX0_hasSeatedWaiter "Classfederation" ∈ nwL := nw_mem 308 rfl rfl
set_option maxRecDepth 100000 in
theorem mk_X3_290 : Cond.methodLink RX3 290 yX3_isRoomShared ∈ nwL := nw_mem 312 rfl rfl
set_option maxRecDepth 100000 in
theorem mk_L_153 : Cond.methodLink RL 153 yL_ask ∈ nwL := nw_mem 316 rfl rfl
set_option maxRecDepth 100000 in
theorem mk_L_7 : Cond.methodLink RL 7 yX3_room ∈ nwL := nw_mem 403 rfl rfl
set_option maxRecDepth 100000 in
theorem mk_L_13 : Cond.methodLink RL 13 yX3_exam ∈ nwL := nw_mem 439 rfl rfl
set_option maxRecDepth 100000 in
theorem mk_L_17 : Cond.methodLink RL 17 yX3_pupil ∈ nwL := nw_mem 444 rfl rfl
set_option maxRecDepth 100000 in
theorem mk_L_20 : Cond.methodLink RL 20 yX3_offer ∈ nwL := nw_mem 449 rfl rfl
set_option maxRecDepth 100000 in
theorem mk_X3_70 : Cond.methodLink RX3 70 yX3_needExam ∈ nwL := nw_mem 453 rfl rfl
set_option maxRecDepth 100000 in
theorem mk_X3_79 : Cond.methodLink RX3 79 yX3_needSlot ∈ nwL := nw_mem 471 rfl rfl
set_option maxRecDepth 100000 in
theorem mk_X3_82 : Cond.methodLink RX3 82 yX3_isRoomTaken ∈ nwL := nw_mem 475 rfl rfl
set_option maxRecDepth 100000 in
theorem mk_X3_96 : Cond.methodLinkNest RX3 96 yX0_open "Classfederation" ∈ nwL := nw_mem 496 rfl rfl
set_option maxRecDepth 100000 in
theorem mk_L_24 : Cond.methodLink RL 24 yX3_bid ∈ nwL := nw_mem 500 rfl rfl
set_option maxRecDepth 100000 in
theorem mk_X3_107 : Cond.methodLink RX3 107 yX3_needPupil ∈ nwL := nw_mem 504 rfl rfl
set_option maxRecDepth 100000 in
theorem mk_X3_100 : Cond.methodLink RX3 100 yX3_offerNumbered ∈ nwL := nw_mem 509 rfl rfl
set_option maxRecDepth 100000 in
theorem mk_X3_134 : Cond.methodLink RX3 134 yX3_needOffer ∈ nwL := nw_mem 513 rfl rfl
set_option maxRecDepth 100000 in
theorem mk_X3_112 : Cond.methodLinkNest RX3 112 yX2_sumOf "Classfederation" ∈ nwL := nw_mem 519 rfl rfl
set_option maxRecDepth 100000 in
theorem mk_X3_116 : Cond.methodLinkNest RX3 116 yX2_pointsBid "Classfederation" ∈ nwL := nw_mem 523 rfl rfl
set_option maxRecDepth 100000 in
theorem mk_X2_25 : Cond.methodLink RX2 25 yX2_placeOf ∈ nwL := nw_mem 527 rfl rfl
set_option maxRecDepth 100000 in
theorem mk_X3_126 : Cond.methodLinkNest RX3 126 yX2_takeOut "Classfederation" ∈ nwL := nw_mem 532 rfl rfl
set_option maxRecDepth 100000 in
theorem mk_X3_130 : Cond.methodLinkNest RX3 130 yX2_tell "Classfederation" ∈ nwL := nw_mem 536 rfl rfl
set_option maxRecDepth 100000 in
theorem mk_L_28 : Cond.methodLink RL 28 yX3_unbid ∈ nwL := nw_mem 540 rfl rfl
set_option maxRecDepth 100000 in
theorem mk_L_32 : Cond.methodLink RL 32 yX3_points ∈ nwL := nw_mem 560 rfl rfl
set_option maxRecDepth 100000 in
theorem mk_L_35 : Cond.methodLink RL 35 yX3_seat ∈ nwL := nw_mem 564 rfl rfl
set_option maxRecDepth 100000 in
theorem mk_L_39 : Cond.methodLink RL 39 yX3_at ∈ nwL := nw_mem 569 rfl rfl
set_option maxRecDepth 100000 in
theorem mk_X3_166 : Cond.methodLink RX3 166 yX3_examHeldAt ∈ nwL := nw_mem 573 rfl rfl
set_option maxRecDepth 100000 in
theorem mk_L_42 : Cond.methodLink RL 42 yX3_holders ∈ nwL := nw_mem 578 rfl rfl
set_option maxRecDepth 100000 in
theorem mk_L_45 : Cond.methodLink RL 45 yX3_holder ∈ nwL := nw_mem 582 rfl rfl
set_option maxRecDepth 100000 in
theorem mk_X3_173 : Cond.methodLinkNest RX3 173 yX0_pupilSeated "Classfederation" ∈ nwL := nw_mem 586 rfl rfl
set_option maxRecDepth 100000 in
theorem mk_L_48 : Cond.methodLink RL 48 yX3_paid ∈ nwL := nw_mem 591 rfl rfl
set_option maxRecDepth 100000 in
theorem mk_L_51 : Cond.methodLink RL 51 yX3_waiting ∈ nwL := nw_mem 596 rfl rfl
set_option maxRecDepth 100000 in
theorem mk_L_54 : Cond.methodLink RL 54 yX3_waiter ∈ nwL := nw_mem 600 rfl rfl
set_option maxRecDepth 100000 in
theorem mk_L_57 : Cond.methodLink RL 57 yX3_giveUp ∈ nwL := nw_mem 605 rfl rfl
set_option maxRecDepth 100000 in
theorem mk_X3_197 : Cond.methodLinkNest RX3 197 yX0_unseat "Classfederation" ∈ nwL := nw_mem 610 rfl rfl
set_option maxRecDepth 100000 in
theorem mk_X3_200 : Cond.methodLink RX3 200 yX3_payBack ∈ nwL := nw_mem 614 rfl rfl
set_option maxRecDepth 100000 in
theorem mk_X3_203 : Cond.methodLink RX3 203 yX3_moveOneUp ∈ nwL := nw_mem 618 rfl rfl
set_option maxRecDepth 100000 in
theorem mk_L_60 : Cond.methodLink RL 60 yX3_move ∈ nwL := nw_mem 622 rfl rfl
set_option maxRecDepth 100000 in
theorem mk_X3_212 : Cond.methodLink RX3 212 yX3_isSeatLostByMove ∈ nwL := nw_mem 627 rfl rfl
set_option maxRecDepth 100000 in
theorem mk_L_63 : Cond.methodLink RL 63 yX3_slotOf ∈ nwL := nw_mem 631 rfl rfl
set_option maxRecDepth 100000 in
theorem mk_L_66 : Cond.methodLink RL 66 yX3_write ∈ nwL := nw_mem 635 rfl rfl
set_option maxRecDepth 100000 in
theorem mk_X3_221 : Cond.methodLink RX3 221 yX3_needStore ∈ nwL := nw_mem 639 rfl rfl
set_option maxRecDepth 100000 in
theorem mk_X3_224 : Cond.methodLink RX3 224 yX3_fieldNumbered ∈ nwL := nw_mem 643 rfl rfl
set_option maxRecDepth 100000 in
theorem mk_X3_228 : Cond.methodLinkNest RX3 228 yX1_isInRange "Classfederation" ∈ nwL := nw_mem 647 rfl rfl
set_option maxRecDepth 100000 in
theorem mk_X3_233 : Cond.methodLinkNest RX3 233 yX1_valueIn "Classfederation" ∈ nwL := nw_mem 651 rfl rfl
set_option maxRecDepth 100000 in
theorem mk_X3_237 : Cond.methodLinkNest RX3 237 yX1_put "Classfederation" ∈ nwL := nw_mem 652 rfl rfl
set_option maxRecDepth 100000 in
theorem mk_L_70 : Cond.methodLink RL 70 yX3_read ∈ nwL := nw_mem 656 rfl rfl
set_option maxRecDepth 100000 in
theorem mk_L_74 : Cond.methodLink RL 74 yX3_sync ∈ nwL := nw_mem 660 rfl rfl
set_option maxRecDepth 100000 in
theorem mk_X3_243 : Cond.methodLinkNest RX3 243 yX1_copyOwned "Classfederation" ∈ nwL := nw_mem 665 rfl rfl
set_option maxRecDepth 100000 in
theorem mk_X1_31 : Cond.methodLink RX1 31 yX1_copyRow ∈ nwL := nw_mem 669 rfl rfl
set_option maxRecDepth 100000 in
theorem mk_L_77 : Cond.methodLink RL 77 yX3_owner ∈ nwL := nw_mem 672 rfl rfl
set_option maxRecDepth 100000 in
theorem mk_L_81 : Cond.methodLink RL 81 yX3_setOwner ∈ nwL := nw_mem 676 rfl rfl
set_option maxRecDepth 100000 in
theorem mk_X3_249 : Cond.methodLinkNest RX3 249 yX1_areSame "Classfederation" ∈ nwL := nw_mem 680 rfl rfl
set_option maxRecDepth 100000 in
theorem mk_L_85 : Cond.methodLink RL 85 yX3_apart ∈ nwL := nw_mem 685 rfl rfl
set_option maxRecDepth 100000 in
theorem mk_X3_255 : Cond.methodLinkNest RX3 255 yX1_countApart "Classfederation" ∈ nwL := nw_mem 689 rfl rfl
set_option maxRecDepth 100000 in
theorem mk_L_88 : Cond.methodLink RL 88 yX3_maySit ∈ nwL := nw_mem 693 rfl rfl
set_option maxRecDepth 100000 in
theorem mk_L_92 : Cond.methodLink RL 92 yX3_isOpen ∈ nwL := nw_mem 697 rfl rfl
set_option maxRecDepth 100000 in
theorem mk_L_95 : Cond.methodLink RL 95 yX3_sit ∈ nwL := nw_mem 701 rfl rfl
set_option maxRecDepth 100000 in
theorem mk_X3_266 : Cond.methodLink RX3 266 yX3_letSit ∈ nwL := nw_mem 706 rfl rfl
set_option maxRecDepth 100000 in
theorem mk_L_98 : Cond.methodLink RL 98 yX3_hasSat ∈ nwL := nw_mem 710 rfl rfl
set_option maxRecDepth 100000 in
theorem mk_L_102 : Cond.methodLink RL 102 yX3_more ∈ nwL := nw_mem 714 rfl rfl
set_option maxRecDepth 100000 in
theorem mk_L_133 : Cond.methodLink RL 133 yL_hasNone ∈ nwL := nw_mem 723 rfl rfl
set_option maxRecDepth 100000 in
theorem mk_L_122 : Cond.methodLink RL 122 yX3_takenShare ∈ nwL := nw_mem 740 rfl rfl
set_option maxRecDepth 100000 in
theorem mk_L_126 : Cond.methodLink RL 126 yX3_meanPoints ∈ nwL := nw_mem 747 rfl rfl
set_option maxRecDepth 100000 in
theorem mk_L_157 : Cond.methodLink RL 157 yL_full ∈ nwL := nw_mem 752 rfl rfl
set_option maxRecDepth 100000 in
theorem mk_L_160 : Cond.methodLink RL 160 yL_rights ∈ nwL := nw_mem 756 rfl rfl
set_option maxRecDepth 100000 in
theorem mk_L_169 : Cond.methodLink RL 169 yL_at ∈ nwL := nw_mem 759 rfl rfl
set_option maxRecDepth 100000 in
theorem mk_L_172 : Cond.methodLink RL 172 yL_some ∈ nwL := nw_mem 762 rfl rfl
set_option maxRecDepth 100000 in
theorem mk_L_164 : Cond.methodLink RL 164 yL_closed ∈ nwL := nw_mem 768 rfl rfl
set_option maxRecDepth 100000 in
theorem tw_X3_IllegalArgumentException : TW RX3 44 48 "java/lang/IllegalArgumentException" := ⟨by decide +kernel, by decide +kernel⟩
set_option maxRecDepth 100000 in
theorem tw_X3_IllegalStateException : TW RX3 55 59 "java/lang/IllegalStateException" := ⟨by decide +kernel, by decide +kernel⟩
set_option maxRecDepth 100000 in
theorem tw_X3_IndexOutOfBoundsException : TW RX3 74 78 "java/lang/IndexOutOfBoundsException" := ⟨by decide +kernel, by decide +kernel⟩
set_option maxRecDepth 100000 in
theorem tw_X3_UnsupportedOperationException : TW RX3 86 90 "java/lang/UnsupportedOperationException" := ⟨by decide +kernel, by decide +kernel⟩
set_option maxRecDepth 100000 in
theorem tw_X3_ArithmeticException : TW RX3 273 277 "java/lang/ArithmeticException" := ⟨by decide +kernel, by decide +kernel⟩
