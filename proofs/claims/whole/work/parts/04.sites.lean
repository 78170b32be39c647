/-! places of the constant pools (by program) -/
theorem xmU {w : Cond} (n : Nat) (h : lw_tbl[n]? = some w) (hg : xIsU w = true) : w ∈ xU := xU_in (List.mem_of_getElem? h) hg
theorem xm {w : Cond} (n : Nat) (h : lw_tbl[n]? = some w) (hg : xGood w = true) : w ∈ xT := xT_in (List.mem_of_getElem? h) hg
theorem g_Q : ∀ w ∈ u_ws R_Q F_Q 5, xGood w = true := by decide +kernel
theorem ix_Q : ∀ w ∈ u_ws R_Q F_Q 5, w ∈ xT := fun w h => xT_in (i_Q w h) (g_Q w h)
theorem g_Co : ∀ w ∈ u_ws R_Co F_Co 3, xGood w = true := by decide +kernel
theorem ix_Co : ∀ w ∈ u_ws R_Co F_Co 3, w ∈ xT := fun w h => xT_in (i_Co w h) (g_Co w h)
theorem g_Ma : ∀ w ∈ u_ws R_Ma F_Ma 4, xGood w = true := by decide +kernel
theorem ix_Ma : ∀ w ∈ u_ws R_Ma F_Ma 4, w ∈ xT := fun w h => xT_in (i_Ma w h) (g_Ma w h)
theorem g_Me : ∀ w ∈ u_ws R_Me F_Me 10, xGood w = true := by decide +kernel
theorem ix_Me : ∀ w ∈ u_ws R_Me F_Me 10, w ∈ xT := fun w h => xT_in (i_Me w h) (g_Me w h)
theorem g_No : ∀ w ∈ u_ws R_No F_No 11, xGood w = true := by decide +kernel
theorem ix_No : ∀ w ∈ u_ws R_No F_No 11, w ∈ xT := fun w h => xT_in (i_No w h) (g_No w h)
theorem g_Se : ∀ w ∈ u_ws R_Se F_Se 2, xGood w = true := by decide +kernel
theorem ix_Se : ∀ w ∈ u_ws R_Se F_Se 2, w ∈ xT := fun w h => xT_in (i_Se w h) (g_Se w h)
theorem g_Ta : ∀ w ∈ u_ws R_Ta F_Ta 14, xGood w = true := by decide +kernel
theorem ix_Ta : ∀ w ∈ u_ws R_Ta F_Ta 14, w ∈ xT := fun w h => xT_in (i_Ta w h) (g_Ta w h)
theorem g_Vo : ∀ w ∈ u_ws R_Vo F_Vo 3, xGood w = true := by decide +kernel
theorem ix_Vo : ∀ w ∈ u_ws R_Vo F_Vo 3, w ∈ xT := fun w h => xT_in (i_Vo w h) (g_Vo w h)
theorem g_M : ∀ w ∈ u_ws R_M F_M 36, xGood w = true := by decide +kernel
theorem ix_M : ∀ w ∈ u_ws R_M F_M 36, w ∈ xT := fun w h => xT_in (i_M w h) (g_M w h)
theorem cw_Q_init : xCw m_Q_init := ⟨(xm 70 (by decide +kernel) (by decide +kernel)), (xm 54 (by decide +kernel) (by decide +kernel)), ⟨by decide, by decide⟩, by decide, rfl, by decide⟩
theorem im_Q_init : Cond.instanceMethod m_Q_init.2.1 ∈ xT := (xm 69 (by decide +kernel) (by decide +kernel))
theorem cw_Q_read : xCw m_Q_read := ⟨(xm 352 (by decide +kernel) (by decide +kernel)), (xm 54 (by decide +kernel) (by decide +kernel)), ⟨by decide, by decide⟩, by decide, rfl, by decide⟩
theorem in_Q_read : xIn m_Q_read 0 := ⟨(xm 350 (by decide +kernel) (by decide +kernel)), (xm 351 (by decide +kernel) (by decide +kernel)), _, rfl, rfl⟩
theorem cw_Q_write : xCw m_Q_write := ⟨(xm 582 (by decide +kernel) (by decide +kernel)), (xm 54 (by decide +kernel) (by decide +kernel)), ⟨by decide, by decide⟩, by decide, rfl, by decide⟩
theorem in_Q_write : xIn m_Q_write 0 := ⟨(xm 580 (by decide +kernel) (by decide +kernel)), (xm 581 (by decide +kernel) (by decide +kernel)), _, rfl, rfl⟩
theorem cw_Q_propose : xCw m_Q_propose := ⟨(xm 586 (by decide +kernel) (by decide +kernel)), (xm 54 (by decide +kernel) (by decide +kernel)), ⟨by decide, by decide⟩, by decide, rfl, by decide⟩
theorem in_Q_propose : xIn m_Q_propose 0 := ⟨(xm 584 (by decide +kernel) (by decide +kernel)), (xm 585 (by decide +kernel) (by decide +kernel)), _, rfl, rfl⟩
theorem cw_Q_retire : xCw m_Q_retire := ⟨(xm 596 (by decide +kernel) (by decide +kernel)), (xm 54 (by decide +kernel) (by decide +kernel)), ⟨by decide, by decide⟩, by decide, rfl, by decide⟩
theorem in_Q_retire : xIn m_Q_retire 0 := ⟨(xm 594 (by decide +kernel) (by decide +kernel)), (xm 595 (by decide +kernel) (by decide +kernel)), _, rfl, rfl⟩
theorem cw_Q_again : xCw m_Q_again := ⟨(xm 600 (by decide +kernel) (by decide +kernel)), (xm 54 (by decide +kernel) (by decide +kernel)), ⟨by decide, by decide⟩, by decide, rfl, by decide⟩
theorem in_Q_again : xIn m_Q_again 0 := ⟨(xm 598 (by decide +kernel) (by decide +kernel)), (xm 599 (by decide +kernel) (by decide +kernel)), _, rfl, rfl⟩
theorem cw_Q_gossip : xCw m_Q_gossip := ⟨(xm 608 (by decide +kernel) (by decide +kernel)), (xm 54 (by decide +kernel) (by decide +kernel)), ⟨by decide, by decide⟩, by decide, rfl, by decide⟩
theorem in_Q_gossip : xIn m_Q_gossip 0 := ⟨(xm 606 (by decide +kernel) (by decide +kernel)), (xm 607 (by decide +kernel) (by decide +kernel)), _, rfl, rfl⟩
theorem cw_Q_join : xCw m_Q_join := ⟨(xm 612 (by decide +kernel) (by decide +kernel)), (xm 54 (by decide +kernel) (by decide +kernel)), ⟨by decide, by decide⟩, by decide, rfl, by decide⟩
theorem in_Q_join : xIn m_Q_join 0 := ⟨(xm 610 (by decide +kernel) (by decide +kernel)), (xm 611 (by decide +kernel) (by decide +kernel)), _, rfl, rfl⟩
theorem cw_Q_deliver : xCw m_Q_deliver := ⟨(xm 616 (by decide +kernel) (by decide +kernel)), (xm 54 (by decide +kernel) (by decide +kernel)), ⟨by decide, by decide⟩, by decide, rfl, by decide⟩
theorem in_Q_deliver : xIn m_Q_deliver 0 := ⟨(xm 614 (by decide +kernel) (by decide +kernel)), (xm 615 (by decide +kernel) (by decide +kernel)), _, rfl, rfl⟩
theorem cw_Q_lose : xCw m_Q_lose := ⟨(xm 652 (by decide +kernel) (by decide +kernel)), (xm 54 (by decide +kernel) (by decide +kernel)), ⟨by decide, by decide⟩, by decide, rfl, by decide⟩
theorem in_Q_lose : xIn m_Q_lose 0 := ⟨(xm 650 (by decide +kernel) (by decide +kernel)), (xm 651 (by decide +kernel) (by decide +kernel)), _, rfl, rfl⟩
theorem cw_Q_twice : xCw m_Q_twice := ⟨(xm 656 (by decide +kernel) (by decide +kernel)), (xm 54 (by decide +kernel) (by decide +kernel)), ⟨by decide, by decide⟩, by decide, rfl, by decide⟩
theorem in_Q_twice : xIn m_Q_twice 0 := ⟨(xm 654 (by decide +kernel) (by decide +kernel)), (xm 655 (by decide +kernel) (by decide +kernel)), _, rfl, rfl⟩
theorem cw_Q_crash : xCw m_Q_crash := ⟨(xm 661 (by decide +kernel) (by decide +kernel)), (xm 54 (by decide +kernel) (by decide +kernel)), ⟨by decide, by decide⟩, by decide, rfl, by decide⟩
theorem in_Q_crash : xIn m_Q_crash 0 := ⟨(xm 659 (by decide +kernel) (by decide +kernel)), (xm 660 (by decide +kernel) (by decide +kernel)), _, rfl, rfl⟩
theorem cw_Q_restart : xCw m_Q_restart := ⟨(xm 666 (by decide +kernel) (by decide +kernel)), (xm 54 (by decide +kernel) (by decide +kernel)), ⟨by decide, by decide⟩, by decide, rfl, by decide⟩
theorem in_Q_restart : xIn m_Q_restart 0 := ⟨(xm 664 (by decide +kernel) (by decide +kernel)), (xm 665 (by decide +kernel) (by decide +kernel)), _, rfl, rfl⟩
theorem cw_Q_arm : xCw m_Q_arm := ⟨(xm 670 (by decide +kernel) (by decide +kernel)), (xm 54 (by decide +kernel) (by decide +kernel)), ⟨by decide, by decide⟩, by decide, rfl, by decide⟩
theorem in_Q_arm : xIn m_Q_arm 0 := ⟨(xm 668 (by decide +kernel) (by decide +kernel)), (xm 669 (by decide +kernel) (by decide +kernel)), _, rfl, rfl⟩
theorem cw_Q_node : xCw m_Q_node := ⟨(xm 674 (by decide +kernel) (by decide +kernel)), (xm 54 (by decide +kernel) (by decide +kernel)), ⟨by decide, by decide⟩, by decide, rfl, by decide⟩
theorem in_Q_node : xIn m_Q_node 0 := ⟨(xm 672 (by decide +kernel) (by decide +kernel)), (xm 673 (by decide +kernel) (by decide +kernel)), _, rfl, rfl⟩
theorem cw_Q_cell : xCw m_Q_cell := ⟨(xm 681 (by decide +kernel) (by decide +kernel)), (xm 54 (by decide +kernel) (by decide +kernel)), ⟨by decide, by decide⟩, by decide, rfl, by decide⟩
theorem in_Q_cell : xIn m_Q_cell 0 := ⟨(xm 679 (by decide +kernel) (by decide +kernel)), (xm 680 (by decide +kernel) (by decide +kernel)), _, rfl, rfl⟩
theorem cw_Q_map : xCw m_Q_map := ⟨(xm 689 (by decide +kernel) (by decide +kernel)), (xm 54 (by decide +kernel) (by decide +kernel)), ⟨by decide, by decide⟩, by decide, rfl, by decide⟩
theorem in_Q_map : xIn m_Q_map 0 := ⟨(xm 687 (by decide +kernel) (by decide +kernel)), (xm 688 (by decide +kernel) (by decide +kernel)), _, rfl, rfl⟩
theorem cw_Q_task : xCw m_Q_task := ⟨(xm 694 (by decide +kernel) (by decide +kernel)), (xm 54 (by decide +kernel) (by decide +kernel)), ⟨by decide, by decide⟩, by decide, rfl, by decide⟩
theorem in_Q_task : xIn m_Q_task 0 := ⟨(xm 692 (by decide +kernel) (by decide +kernel)), (xm 693 (by decide +kernel) (by decide +kernel)), _, rfl, rfl⟩
theorem cw_Q_message : xCw m_Q_message := ⟨(xm 698 (by decide +kernel) (by decide +kernel)), (xm 54 (by decide +kernel) (by decide +kernel)), ⟨by decide, by decide⟩, by decide, rfl, by decide⟩
theorem in_Q_message : xIn m_Q_message 0 := ⟨(xm 696 (by decide +kernel) (by decide +kernel)), (xm 697 (by decide +kernel) (by decide +kernel)), _, rfl, rfl⟩
theorem cw_Q_count : xCw m_Q_count := ⟨(xm 706 (by decide +kernel) (by decide +kernel)), (xm 54 (by decide +kernel) (by decide +kernel)), ⟨by decide, by decide⟩, by decide, rfl, by decide⟩
theorem in_Q_count : xIn m_Q_count 0 := ⟨(xm 704 (by decide +kernel) (by decide +kernel)), (xm 705 (by decide +kernel) (by decide +kernel)), _, rfl, rfl⟩
theorem cw_Q_writesOfAll : xCw m_Q_writesOfAll := ⟨(xm 710 (by decide +kernel) (by decide +kernel)), (xm 54 (by decide +kernel) (by decide +kernel)), ⟨by decide, by decide⟩, by decide, rfl, by decide⟩
theorem in_Q_writesOfAll : xIn m_Q_writesOfAll 0 := ⟨(xm 709 (by decide +kernel) (by decide +kernel)), (xm 12 (by decide +kernel) (by decide +kernel)), _, rfl, rfl⟩
theorem cw_Q_nodesUp : xCw m_Q_nodesUp := ⟨(xm 714 (by decide +kernel) (by decide +kernel)), (xm 54 (by decide +kernel) (by decide +kernel)), ⟨by decide, by decide⟩, by decide, rfl, by decide⟩
theorem in_Q_nodesUp : xIn m_Q_nodesUp 0 := ⟨(xm 713 (by decide +kernel) (by decide +kernel)), (xm 13 (by decide +kernel) (by decide +kernel)), _, rfl, rfl⟩
theorem cw_Q_find : xCw m_Q_find := ⟨(xm 363 (by decide +kernel) (by decide +kernel)), (xm 54 (by decide +kernel) (by decide +kernel)), ⟨by decide, by decide⟩, by decide, rfl, by decide⟩
theorem in_Q_find : xIn m_Q_find 0 := ⟨(xm 362 (by decide +kernel) (by decide +kernel)), (xm 1 (by decide +kernel) (by decide +kernel)), _, rfl, rfl⟩
theorem cw_Q_isObject : xCw m_Q_isObject := ⟨(xm 355 (by decide +kernel) (by decide +kernel)), (xm 54 (by decide +kernel) (by decide +kernel)), ⟨by decide, by decide⟩, by decide, rfl, by decide⟩
theorem st_Q_isObject : Cond.static m_Q_isObject.2.1 ∈ xT := (xm 354 (by decide +kernel) (by decide +kernel))
theorem cw_Q_isIndex : xCw m_Q_isIndex := ⟨(xm 332 (by decide +kernel) (by decide +kernel)), (xm 54 (by decide +kernel) (by decide +kernel)), ⟨by decide, by decide⟩, by decide, rfl, by decide⟩
theorem st_Q_isIndex : Cond.static m_Q_isIndex.2.1 ∈ xT := (xm 331 (by decide +kernel) (by decide +kernel))
theorem cw_Q_nearest : xCw m_Q_nearest := ⟨(xm 179 (by decide +kernel) (by decide +kernel)), (xm 54 (by decide +kernel) (by decide +kernel)), ⟨by decide, by decide⟩, by decide, rfl, by decide⟩
theorem st_Q_nearest : Cond.static m_Q_nearest.2.1 ∈ xT := (xm 178 (by decide +kernel) (by decide +kernel))
theorem cw_Q_isIn : xCw m_Q_isIn := ⟨(xm 421 (by decide +kernel) (by decide +kernel)), (xm 54 (by decide +kernel) (by decide +kernel)), ⟨by decide, by decide⟩, by decide, rfl, by decide⟩
theorem st_Q_isIn : Cond.static m_Q_isIn.2.1 ∈ xT := (xm 420 (by decide +kernel) (by decide +kernel))
theorem cw_Q_least : xCw m_Q_least := ⟨(xm 677 (by decide +kernel) (by decide +kernel)), (xm 54 (by decide +kernel) (by decide +kernel)), ⟨by decide, by decide⟩, by decide, rfl, by decide⟩
theorem st_Q_least : Cond.static m_Q_least.2.1 ∈ xT := (xm 676 (by decide +kernel) (by decide +kernel))
theorem cw_Q_greatest : xCw m_Q_greatest := ⟨(xm 592 (by decide +kernel) (by decide +kernel)), (xm 54 (by decide +kernel) (by decide +kernel)), ⟨by decide, by decide⟩, by decide, rfl, by decide⟩
theorem st_Q_greatest : Cond.static m_Q_greatest.2.1 ∈ xT := (xm 591 (by decide +kernel) (by decide +kernel))
theorem cw_Q_isConfiguration : xCw m_Q_isConfiguration := ⟨(xm 589 (by decide +kernel) (by decide +kernel)), (xm 54 (by decide +kernel) (by decide +kernel)), ⟨by decide, by decide⟩, by decide, rfl, by decide⟩
theorem st_Q_isConfiguration : Cond.static m_Q_isConfiguration.2.1 ∈ xT := (xm 588 (by decide +kernel) (by decide +kernel))
theorem cw_Q_configuration : xCw m_Q_configuration := ⟨(xm 188 (by decide +kernel) (by decide +kernel)), (xm 54 (by decide +kernel) (by decide +kernel)), ⟨by decide, by decide⟩, by decide, rfl, by decide⟩
theorem st_Q_configuration : Cond.static m_Q_configuration.2.1 ∈ xT := (xm 187 (by decide +kernel) (by decide +kernel))
theorem cw_Q_membersOf : xCw m_Q_membersOf := ⟨(xm 424 (by decide +kernel) (by decide +kernel)), (xm 54 (by decide +kernel) (by decide +kernel)), ⟨by decide, by decide⟩, by decide, rfl, by decide⟩
theorem st_Q_membersOf : Cond.static m_Q_membersOf.2.1 ∈ xT := (xm 423 (by decide +kernel) (by decide +kernel))
theorem cw_Q_readersOf : xCw m_Q_readersOf := ⟨(xm 540 (by decide +kernel) (by decide +kernel)), (xm 54 (by decide +kernel) (by decide +kernel)), ⟨by decide, by decide⟩, by decide, rfl, by decide⟩
theorem st_Q_readersOf : Cond.static m_Q_readersOf.2.1 ∈ xT := (xm 539 (by decide +kernel) (by decide +kernel))
theorem cw_Q_writersOf : xCw m_Q_writersOf := ⟨(xm 537 (by decide +kernel) (by decide +kernel)), (xm 54 (by decide +kernel) (by decide +kernel)), ⟨by decide, by decide⟩, by decide, rfl, by decide⟩
theorem st_Q_writersOf : Cond.static m_Q_writersOf.2.1 ∈ xT := (xm 536 (by decide +kernel) (by decide +kernel))
theorem cw_Q_isAnswer : xCw m_Q_isAnswer := ⟨(xm 643 (by decide +kernel) (by decide +kernel)), (xm 54 (by decide +kernel) (by decide +kernel)), ⟨by decide, by decide⟩, by decide, rfl, by decide⟩
theorem st_Q_isAnswer : Cond.static m_Q_isAnswer.2.1 ∈ xT := (xm 642 (by decide +kernel) (by decide +kernel))
theorem cw_Q_openTask : xCw m_Q_openTask := ⟨(xm 359 (by decide +kernel) (by decide +kernel)), (xm 54 (by decide +kernel) (by decide +kernel)), ⟨by decide, by decide⟩, by decide, rfl, by decide⟩
theorem in_Q_openTask : xIn m_Q_openTask 0 := ⟨(xm 358 (by decide +kernel) (by decide +kernel)), (xm 0 (by decide +kernel) (by decide +kernel)), _, rfl, rfl⟩
theorem cw_Q_started : xCw m_Q_started := ⟨(xm 578 (by decide +kernel) (by decide +kernel)), (xm 54 (by decide +kernel) (by decide +kernel)), ⟨by decide, by decide⟩, by decide, rfl, by decide⟩
theorem st_Q_started : Cond.static m_Q_started.2.1 ∈ xT := (xm 577 (by decide +kernel) (by decide +kernel))
theorem cw_Q_beginFirst : xCw m_Q_beginFirst := ⟨(xm 383 (by decide +kernel) (by decide +kernel)), (xm 54 (by decide +kernel) (by decide +kernel)), ⟨by decide, by decide⟩, by decide, rfl, by decide⟩
theorem in_Q_beginFirst : xIn m_Q_beginFirst 0 := ⟨(xm 382 (by decide +kernel) (by decide +kernel)), (xm 2 (by decide +kernel) (by decide +kernel)), _, rfl, rfl⟩
theorem cw_Q_beginSecond : xCw m_Q_beginSecond := ⟨(xm 544 (by decide +kernel) (by decide +kernel)), (xm 54 (by decide +kernel) (by decide +kernel)), ⟨by decide, by decide⟩, by decide, rfl, by decide⟩
theorem in_Q_beginSecond : xIn m_Q_beginSecond 0 := ⟨(xm 543 (by decide +kernel) (by decide +kernel)), (xm 8 (by decide +kernel) (by decide +kernel)), _, rfl, rfl⟩
theorem cw_Q_ask : xCw m_Q_ask := ⟨(xm 411 (by decide +kernel) (by decide +kernel)), (xm 54 (by decide +kernel) (by decide +kernel)), ⟨by decide, by decide⟩, by decide, rfl, by decide⟩
theorem in_Q_ask : xIn m_Q_ask 0 := ⟨(xm 410 (by decide +kernel) (by decide +kernel)), (xm 3 (by decide +kernel) (by decide +kernel)), _, rfl, rfl⟩
theorem cw_Q_askAgain : xCw m_Q_askAgain := ⟨(xm 604 (by decide +kernel) (by decide +kernel)), (xm 54 (by decide +kernel) (by decide +kernel)), ⟨by decide, by decide⟩, by decide, rfl, by decide⟩
theorem in_Q_askAgain : xIn m_Q_askAgain 0 := ⟨(xm 603 (by decide +kernel) (by decide +kernel)), (xm 9 (by decide +kernel) (by decide +kernel)), _, rfl, rfl⟩
theorem cw_Q_draftRequest : xCw m_Q_draftRequest := ⟨(xm 428 (by decide +kernel) (by decide +kernel)), (xm 54 (by decide +kernel) (by decide +kernel)), ⟨by decide, by decide⟩, by decide, rfl, by decide⟩
theorem in_Q_draftRequest : xIn m_Q_draftRequest 0 := ⟨(xm 427 (by decide +kernel) (by decide +kernel)), (xm 4 (by decide +kernel) (by decide +kernel)), _, rfl, rfl⟩
theorem cw_Q_requestOf : xCw m_Q_requestOf := ⟨(xm 431 (by decide +kernel) (by decide +kernel)), (xm 54 (by decide +kernel) (by decide +kernel)), ⟨by decide, by decide⟩, by decide, rfl, by decide⟩
theorem st_Q_requestOf : Cond.static m_Q_requestOf.2.1 ∈ xT := (xm 430 (by decide +kernel) (by decide +kernel))
theorem cw_Q_concerned : xCw m_Q_concerned := ⟨(xm 414 (by decide +kernel) (by decide +kernel)), (xm 54 (by decide +kernel) (by decide +kernel)), ⟨by decide, by decide⟩, by decide, rfl, by decide⟩
theorem st_Q_concerned : Cond.static m_Q_concerned.2.1 ∈ xT := (xm 413 (by decide +kernel) (by decide +kernel))
theorem cw_Q_isEnough : xCw m_Q_isEnough := ⟨(xm 520 (by decide +kernel) (by decide +kernel)), (xm 54 (by decide +kernel) (by decide +kernel)), ⟨by decide, by decide⟩, by decide, rfl, by decide⟩
theorem st_Q_isEnough : Cond.static m_Q_isEnough.2.1 ∈ xT := (xm 519 (by decide +kernel) (by decide +kernel))
theorem cw_Q_needed : xCw m_Q_needed := ⟨(xm 534 (by decide +kernel) (by decide +kernel)), (xm 54 (by decide +kernel) (by decide +kernel)), ⟨by decide, by decide⟩, by decide, rfl, by decide⟩
theorem st_Q_needed : Cond.static m_Q_needed.2.1 ∈ xT := (xm 533 (by decide +kernel) (by decide +kernel))
theorem cw_Q_settle : xCw m_Q_settle := ⟨(xm 517 (by decide +kernel) (by decide +kernel)), (xm 54 (by decide +kernel) (by decide +kernel)), ⟨by decide, by decide⟩, by decide, rfl, by decide⟩
theorem in_Q_settle : xIn m_Q_settle 0 := ⟨(xm 516 (by decide +kernel) (by decide +kernel)), (xm 7 (by decide +kernel) (by decide +kernel)), _, rfl, rfl⟩
theorem cw_Q_finish : xCw m_Q_finish := ⟨(xm 559 (by decide +kernel) (by decide +kernel)), (xm 54 (by decide +kernel) (by decide +kernel)), ⟨by decide, by decide⟩, by decide, rfl, by decide⟩
theorem st_Q_finish : Cond.static m_Q_finish.2.1 ∈ xT := (xm 558 (by decide +kernel) (by decide +kernel))
theorem cw_Q_conclude : xCw m_Q_conclude := ⟨(xm 571 (by decide +kernel) (by decide +kernel)), (xm 54 (by decide +kernel) (by decide +kernel)), ⟨by decide, by decide⟩, by decide, rfl, by decide⟩
theorem st_Q_conclude : Cond.static m_Q_conclude.2.1 ∈ xT := (xm 570 (by decide +kernel) (by decide +kernel))
theorem cw_Q_look : xCw m_Q_look := ⟨(xm 640 (by decide +kernel) (by decide +kernel)), (xm 54 (by decide +kernel) (by decide +kernel)), ⟨by decide, by decide⟩, by decide, rfl, by decide⟩
theorem in_Q_look : xIn m_Q_look 0 := ⟨(xm 639 (by decide +kernel) (by decide +kernel)), (xm 10 (by decide +kernel) (by decide +kernel)), _, rfl, rfl⟩
theorem cw_Q_serve : xCw m_Q_serve := ⟨(xm 449 (by decide +kernel) (by decide +kernel)), (xm 54 (by decide +kernel) (by decide +kernel)), ⟨by decide, by decide⟩, by decide, rfl, by decide⟩
theorem in_Q_serve : xIn m_Q_serve 0 := ⟨(xm 448 (by decide +kernel) (by decide +kernel)), (xm 5 (by decide +kernel) (by decide +kernel)), _, rfl, rfl⟩
theorem cw_Q_vote : xCw m_Q_vote := ⟨(xm 472 (by decide +kernel) (by decide +kernel)), (xm 54 (by decide +kernel) (by decide +kernel)), ⟨by decide, by decide⟩, by decide, rfl, by decide⟩
theorem in_Q_vote : xIn m_Q_vote 0 := ⟨(xm 471 (by decide +kernel) (by decide +kernel)), (xm 6 (by decide +kernel) (by decide +kernel)), _, rfl, rfl⟩
theorem cw_Q_sendReply : xCw m_Q_sendReply := ⟨(xm 647 (by decide +kernel) (by decide +kernel)), (xm 54 (by decide +kernel) (by decide +kernel)), ⟨by decide, by decide⟩, by decide, rfl, by decide⟩
theorem in_Q_sendReply : xIn m_Q_sendReply 0 := ⟨(xm 646 (by decide +kernel) (by decide +kernel)), (xm 11 (by decide +kernel) (by decide +kernel)), _, rfl, rfl⟩
theorem cw_Q_hear : xCw m_Q_hear := ⟨(xm 497 (by decide +kernel) (by decide +kernel)), (xm 54 (by decide +kernel) (by decide +kernel)), ⟨by decide, by decide⟩, by decide, rfl, by decide⟩
theorem st_Q_hear : Cond.static m_Q_hear.2.1 ∈ xT := (xm 496 (by decide +kernel) (by decide +kernel))
theorem cw_M_init : xCw m_M_init := ⟨(xm 722 (by decide +kernel) (by decide +kernel)), (xm 63 (by decide +kernel) (by decide +kernel)), ⟨by decide, by decide⟩, by decide, rfl, by decide⟩
theorem im_M_init : Cond.instanceMethod m_M_init.2.1 ∈ xT := (xm 721 (by decide +kernel) (by decide +kernel))
theorem cw_M_in : xCw m_M_in := ⟨(xm 846 (by decide +kernel) (by decide +kernel)), (xm 63 (by decide +kernel) (by decide +kernel)), ⟨by decide, by decide⟩, by decide, rfl, by decide⟩
theorem st_M_in : Cond.static m_M_in.2.1 ∈ xT := (xm 845 (by decide +kernel) (by decide +kernel))
theorem cw_M_isNode : xCw m_M_isNode := ⟨(xm 843 (by decide +kernel) (by decide +kernel)), (xm 63 (by decide +kernel) (by decide +kernel)), ⟨by decide, by decide⟩, by decide, rfl, by decide⟩
theorem st_M_isNode : Cond.static m_M_isNode.2.1 ∈ xT := (xm 842 (by decide +kernel) (by decide +kernel))
theorem cw_M_isUp : xCw m_M_isUp := ⟨(xm 850 (by decide +kernel) (by decide +kernel)), (xm 63 (by decide +kernel) (by decide +kernel)), ⟨by decide, by decide⟩, by decide, rfl, by decide⟩
theorem in_M_isUp : xIn m_M_isUp 8 := ⟨(xm 849 (by decide +kernel) (by decide +kernel)), (xm 15 (by decide +kernel) (by decide +kernel)), _, rfl, rfl⟩
theorem cw_M_reads : xCw m_M_reads := ⟨(xm 947 (by decide +kernel) (by decide +kernel)), (xm 63 (by decide +kernel) (by decide +kernel)), ⟨by decide, by decide⟩, by decide, rfl, by decide⟩
theorem st_M_reads : Cond.static m_M_reads.2.1 ∈ xT := (xm 946 (by decide +kernel) (by decide +kernel))
theorem cw_M_stores : xCw m_M_stores := ⟨(xm 950 (by decide +kernel) (by decide +kernel)), (xm 63 (by decide +kernel) (by decide +kernel)), ⟨by decide, by decide⟩, by decide, rfl, by decide⟩
theorem st_M_stores : Cond.static m_M_stores.2.1 ∈ xT := (xm 949 (by decide +kernel) (by decide +kernel))
theorem cw_M_many : xCw m_M_many := ⟨(xm 944 (by decide +kernel) (by decide +kernel)), (xm 63 (by decide +kernel) (by decide +kernel)), ⟨by decide, by decide⟩, by decide, rfl, by decide⟩
theorem st_M_many : Cond.static m_M_many.2.1 ∈ xT := (xm 943 (by decide +kernel) (by decide +kernel))
theorem cw_M_goesDown : xCw m_M_goesDown := ⟨(xm 878 (by decide +kernel) (by decide +kernel)), (xm 63 (by decide +kernel) (by decide +kernel)), ⟨by decide, by decide⟩, by decide, rfl, by decide⟩
theorem in_M_goesDown : xIn m_M_goesDown 8 := ⟨(xm 877 (by decide +kernel) (by decide +kernel)), (xm 22 (by decide +kernel) (by decide +kernel)), _, rfl, rfl⟩
theorem cw_M_mayWrite : xCw m_M_mayWrite := ⟨(xm 874 (by decide +kernel) (by decide +kernel)), (xm 63 (by decide +kernel) (by decide +kernel)), ⟨by decide, by decide⟩, by decide, rfl, by decide⟩
theorem in_M_mayWrite : xIn m_M_mayWrite 8 := ⟨(xm 873 (by decide +kernel) (by decide +kernel)), (xm 21 (by decide +kernel) (by decide +kernel)), _, rfl, rfl⟩
theorem cw_M_writeRound : xCw m_M_writeRound := ⟨(xm 870 (by decide +kernel) (by decide +kernel)), (xm 63 (by decide +kernel) (by decide +kernel)), ⟨by decide, by decide⟩, by decide, rfl, by decide⟩
theorem in_M_writeRound : xIn m_M_writeRound 8 := ⟨(xm 869 (by decide +kernel) (by decide +kernel)), (xm 20 (by decide +kernel) (by decide +kernel)), _, rfl, rfl⟩
theorem cw_M_store : xCw m_M_store := ⟨(xm 909 (by decide +kernel) (by decide +kernel)), (xm 63 (by decide +kernel) (by decide +kernel)), ⟨by decide, by decide⟩, by decide, rfl, by decide⟩
theorem in_M_store : xIn m_M_store 8 := ⟨(xm 908 (by decide +kernel) (by decide +kernel)), (xm 29 (by decide +kernel) (by decide +kernel)), _, rfl, rfl⟩
theorem cw_M_isGreater : xCw m_M_isGreater := ⟨(xm 905 (by decide +kernel) (by decide +kernel)), (xm 63 (by decide +kernel) (by decide +kernel)), ⟨by decide, by decide⟩, by decide, rfl, by decide⟩
theorem st_M_isGreater : Cond.static m_M_isGreater.2.1 ∈ xT := (xm 904 (by decide +kernel) (by decide +kernel))
theorem cw_M_writeMap : xCw m_M_writeMap := ⟨(xm 962 (by decide +kernel) (by decide +kernel)), (xm 63 (by decide +kernel) (by decide +kernel)), ⟨by decide, by decide⟩, by decide, rfl, by decide⟩
theorem in_M_writeMap : xIn m_M_writeMap 8 := ⟨(xm 961 (by decide +kernel) (by decide +kernel)), (xm 40 (by decide +kernel) (by decide +kernel)), _, rfl, rfl⟩
theorem cw_M_writeVote : xCw m_M_writeVote := ⟨(xm 913 (by decide +kernel) (by decide +kernel)), (xm 63 (by decide +kernel) (by decide +kernel)), ⟨by decide, by decide⟩, by decide, rfl, by decide⟩
theorem in_M_writeVote : xIn m_M_writeVote 8 := ⟨(xm 912 (by decide +kernel) (by decide +kernel)), (xm 30 (by decide +kernel) (by decide +kernel)), _, rfl, rfl⟩
theorem cw_M_greatest : xCw m_M_greatest := ⟨(xm 854 (by decide +kernel) (by decide +kernel)), (xm 63 (by decide +kernel) (by decide +kernel)), ⟨by decide, by decide⟩, by decide, rfl, by decide⟩
theorem in_M_greatest : xIn m_M_greatest 8 := ⟨(xm 853 (by decide +kernel) (by decide +kernel)), (xm 16 (by decide +kernel) (by decide +kernel)), _, rfl, rfl⟩
theorem cw_M_least : xCw m_M_least := ⟨(xm 985 (by decide +kernel) (by decide +kernel)), (xm 63 (by decide +kernel) (by decide +kernel)), ⟨by decide, by decide⟩, by decide, rfl, by decide⟩
theorem in_M_least : xIn m_M_least 8 := ⟨(xm 984 (by decide +kernel) (by decide +kernel)), (xm 42 (by decide +kernel) (by decide +kernel)), _, rfl, rfl⟩
theorem cw_M_allActive : xCw m_M_allActive := ⟨(xm 890 (by decide +kernel) (by decide +kernel)), (xm 63 (by decide +kernel) (by decide +kernel)), ⟨by decide, by decide⟩, by decide, rfl, by decide⟩
theorem in_M_allActive : xIn m_M_allActive 8 := ⟨(xm 889 (by decide +kernel) (by decide +kernel)), (xm 25 (by decide +kernel) (by decide +kernel)), _, rfl, rfl⟩
theorem cw_M_send : xCw m_M_send := ⟨(xm 933 (by decide +kernel) (by decide +kernel)), (xm 63 (by decide +kernel) (by decide +kernel)), ⟨by decide, by decide⟩, by decide, rfl, by decide⟩
theorem in_M_send : xIn m_M_send 8 := ⟨(xm 932 (by decide +kernel) (by decide +kernel)), (xm 35 (by decide +kernel) (by decide +kernel)), _, rfl, rfl⟩
theorem cw_M_remove : xCw m_M_remove := ⟨(xm 1005 (by decide +kernel) (by decide +kernel)), (xm 63 (by decide +kernel) (by decide +kernel)), ⟨by decide, by decide⟩, by decide, rfl, by decide⟩
theorem in_M_remove : xIn m_M_remove 8 := ⟨(xm 1004 (by decide +kernel) (by decide +kernel)), (xm 43 (by decide +kernel) (by decide +kernel)), _, rfl, rfl⟩
theorem cw_M_best : xCw m_M_best := ⟨(xm 902 (by decide +kernel) (by decide +kernel)), (xm 63 (by decide +kernel) (by decide +kernel)), ⟨by decide, by decide⟩, by decide, rfl, by decide⟩
theorem in_M_best : xIn m_M_best 8 := ⟨(xm 901 (by decide +kernel) (by decide +kernel)), (xm 28 (by decide +kernel) (by decide +kernel)), _, rfl, rfl⟩
theorem cw_M_bestIsOwn : xCw m_M_bestIsOwn := ⟨(xm 866 (by decide +kernel) (by decide +kernel)), (xm 63 (by decide +kernel) (by decide +kernel)), ⟨by decide, by decide⟩, by decide, rfl, by decide⟩
theorem in_M_bestIsOwn : xIn m_M_bestIsOwn 8 := ⟨(xm 865 (by decide +kernel) (by decide +kernel)), (xm 19 (by decide +kernel) (by decide +kernel)), _, rfl, rfl⟩
theorem cw_M_top : xCw m_M_top := ⟨(xm 917 (by decide +kernel) (by decide +kernel)), (xm 63 (by decide +kernel) (by decide +kernel)), ⟨by decide, by decide⟩, by decide, rfl, by decide⟩
theorem in_M_top : xIn m_M_top 8 := ⟨(xm 916 (by decide +kernel) (by decide +kernel)), (xm 31 (by decide +kernel) (by decide +kernel)), _, rfl, rfl⟩
theorem cw_M_isData : xCw m_M_isData := ⟨(xm 886 (by decide +kernel) (by decide +kernel)), (xm 63 (by decide +kernel) (by decide +kernel)), ⟨by decide, by decide⟩, by decide, rfl, by decide⟩
theorem in_M_isData : xIn m_M_isData 8 := ⟨(xm 885 (by decide +kernel) (by decide +kernel)), (xm 24 (by decide +kernel) (by decide +kernel)), _, rfl, rfl⟩
theorem cw_M_chosen : xCw m_M_chosen := ⟨(xm 921 (by decide +kernel) (by decide +kernel)), (xm 63 (by decide +kernel) (by decide +kernel)), ⟨by decide, by decide⟩, by decide, rfl, by decide⟩
theorem in_M_chosen : xIn m_M_chosen 8 := ⟨(xm 920 (by decide +kernel) (by decide +kernel)), (xm 32 (by decide +kernel) (by decide +kernel)), _, rfl, rfl⟩
theorem cw_M_request : xCw m_M_request := ⟨(xm 929 (by decide +kernel) (by decide +kernel)), (xm 63 (by decide +kernel) (by decide +kernel)), ⟨by decide, by decide⟩, by decide, rfl, by decide⟩
theorem in_M_request : xIn m_M_request 8 := ⟨(xm 928 (by decide +kernel) (by decide +kernel)), (xm 34 (by decide +kernel) (by decide +kernel)), _, rfl, rfl⟩
theorem cw_M_does : xCw m_M_does := ⟨(xm 898 (by decide +kernel) (by decide +kernel)), (xm 63 (by decide +kernel) (by decide +kernel)), ⟨by decide, by decide⟩, by decide, rfl, by decide⟩
theorem in_M_does : xIn m_M_does 8 := ⟨(xm 897 (by decide +kernel) (by decide +kernel)), (xm 27 (by decide +kernel) (by decide +kernel)), _, rfl, rfl⟩
theorem cw_M_refused : xCw m_M_refused := ⟨(xm 925 (by decide +kernel) (by decide +kernel)), (xm 63 (by decide +kernel) (by decide +kernel)), ⟨by decide, by decide⟩, by decide, rfl, by decide⟩
theorem in_M_refused : xIn m_M_refused 8 := ⟨(xm 924 (by decide +kernel) (by decide +kernel)), (xm 33 (by decide +kernel) (by decide +kernel)), _, rfl, rfl⟩
theorem cw_M_ask : xCw m_M_ask := ⟨(xm 894 (by decide +kernel) (by decide +kernel)), (xm 63 (by decide +kernel) (by decide +kernel)), ⟨by decide, by decide⟩, by decide, rfl, by decide⟩
theorem in_M_ask : xIn m_M_ask 8 := ⟨(xm 893 (by decide +kernel) (by decide +kernel)), (xm 26 (by decide +kernel) (by decide +kernel)), _, rfl, rfl⟩
theorem cw_M_wantedSet : xCw m_M_wantedSet := ⟨(xm 882 (by decide +kernel) (by decide +kernel)), (xm 63 (by decide +kernel) (by decide +kernel)), ⟨by decide, by decide⟩, by decide, rfl, by decide⟩
theorem in_M_wantedSet : xIn m_M_wantedSet 8 := ⟨(xm 881 (by decide +kernel) (by decide +kernel)), (xm 23 (by decide +kernel) (by decide +kernel)), _, rfl, rfl⟩
theorem cw_M_begins : xCw m_M_begins := ⟨(xm 862 (by decide +kernel) (by decide +kernel)), (xm 63 (by decide +kernel) (by decide +kernel)), ⟨by decide, by decide⟩, by decide, rfl, by decide⟩
theorem in_M_begins : xIn m_M_begins 8 := ⟨(xm 861 (by decide +kernel) (by decide +kernel)), (xm 18 (by decide +kernel) (by decide +kernel)), _, rfl, rfl⟩
theorem cw_M_isEnough : xCw m_M_isEnough := ⟨(xm 941 (by decide +kernel) (by decide +kernel)), (xm 63 (by decide +kernel) (by decide +kernel)), ⟨by decide, by decide⟩, by decide, rfl, by decide⟩
theorem in_M_isEnough : xIn m_M_isEnough 8 := ⟨(xm 940 (by decide +kernel) (by decide +kernel)), (xm 37 (by decide +kernel) (by decide +kernel)), _, rfl, rfl⟩
theorem cw_M_goesOn : xCw m_M_goesOn := ⟨(xm 937 (by decide +kernel) (by decide +kernel)), (xm 63 (by decide +kernel) (by decide +kernel)), ⟨by decide, by decide⟩, by decide, rfl, by decide⟩
theorem in_M_goesOn : xIn m_M_goesOn 8 := ⟨(xm 936 (by decide +kernel) (by decide +kernel)), (xm 36 (by decide +kernel) (by decide +kernel)), _, rfl, rfl⟩
theorem cw_M_second : xCw m_M_second := ⟨(xm 954 (by decide +kernel) (by decide +kernel)), (xm 63 (by decide +kernel) (by decide +kernel)), ⟨by decide, by decide⟩, by decide, rfl, by decide⟩
theorem in_M_second : xIn m_M_second 8 := ⟨(xm 953 (by decide +kernel) (by decide +kernel)), (xm 38 (by decide +kernel) (by decide +kernel)), _, rfl, rfl⟩
theorem cw_M_ends : xCw m_M_ends := ⟨(xm 958 (by decide +kernel) (by decide +kernel)), (xm 63 (by decide +kernel) (by decide +kernel)), ⟨by decide, by decide⟩, by decide, rfl, by decide⟩
theorem in_M_ends : xIn m_M_ends 8 := ⟨(xm 957 (by decide +kernel) (by decide +kernel)), (xm 39 (by decide +kernel) (by decide +kernel)), _, rfl, rfl⟩
theorem cw_M_many16 : xCw m_M_many16 := ⟨(xm 969 (by decide +kernel) (by decide +kernel)), (xm 63 (by decide +kernel) (by decide +kernel)), ⟨by decide, by decide⟩, by decide, rfl, by decide⟩
theorem st_M_many16 : Cond.static m_M_many16.2.1 ∈ xT := (xm 968 (by decide +kernel) (by decide +kernel))
theorem cw_M_proposed : xCw m_M_proposed := ⟨(xm 966 (by decide +kernel) (by decide +kernel)), (xm 63 (by decide +kernel) (by decide +kernel)), ⟨by decide, by decide⟩, by decide, rfl, by decide⟩
theorem in_M_proposed : xIn m_M_proposed 8 := ⟨(xm 965 (by decide +kernel) (by decide +kernel)), (xm 41 (by decide +kernel) (by decide +kernel)), _, rfl, rfl⟩
theorem cw_M_looks : xCw m_M_looks := ⟨(xm 1013 (by decide +kernel) (by decide +kernel)), (xm 63 (by decide +kernel) (by decide +kernel)), ⟨by decide, by decide⟩, by decide, rfl, by decide⟩
theorem in_M_looks : xIn m_M_looks 8 := ⟨(xm 1012 (by decide +kernel) (by decide +kernel)), (xm 45 (by decide +kernel) (by decide +kernel)), _, rfl, rfl⟩
theorem cw_M_counts : xCw m_M_counts := ⟨(xm 1033 (by decide +kernel) (by decide +kernel)), (xm 63 (by decide +kernel) (by decide +kernel)), ⟨by decide, by decide⟩, by decide, rfl, by decide⟩
theorem in_M_counts : xIn m_M_counts 8 := ⟨(xm 1032 (by decide +kernel) (by decide +kernel)), (xm 50 (by decide +kernel) (by decide +kernel)), _, rfl, rfl⟩
theorem cw_M_answer : xCw m_M_answer := ⟨(xm 1021 (by decide +kernel) (by decide +kernel)), (xm 63 (by decide +kernel) (by decide +kernel)), ⟨by decide, by decide⟩, by decide, rfl, by decide⟩
theorem in_M_answer : xIn m_M_answer 8 := ⟨(xm 1020 (by decide +kernel) (by decide +kernel)), (xm 47 (by decide +kernel) (by decide +kernel)), _, rfl, rfl⟩
theorem cw_M_hasAnswered : xCw m_M_hasAnswered := ⟨(xm 1041 (by decide +kernel) (by decide +kernel)), (xm 63 (by decide +kernel) (by decide +kernel)), ⟨by decide, by decide⟩, by decide, rfl, by decide⟩
theorem in_M_hasAnswered : xIn m_M_hasAnswered 8 := ⟨(xm 1040 (by decide +kernel) (by decide +kernel)), (xm 52 (by decide +kernel) (by decide +kernel)), _, rfl, rfl⟩
theorem cw_M_storeAll : xCw m_M_storeAll := ⟨(xm 1029 (by decide +kernel) (by decide +kernel)), (xm 63 (by decide +kernel) (by decide +kernel)), ⟨by decide, by decide⟩, by decide, rfl, by decide⟩
theorem in_M_storeAll : xIn m_M_storeAll 8 := ⟨(xm 1028 (by decide +kernel) (by decide +kernel)), (xm 49 (by decide +kernel) (by decide +kernel)), _, rfl, rfl⟩
theorem cw_M_merges : xCw m_M_merges := ⟨(xm 1009 (by decide +kernel) (by decide +kernel)), (xm 63 (by decide +kernel) (by decide +kernel)), ⟨by decide, by decide⟩, by decide, rfl, by decide⟩
theorem in_M_merges : xIn m_M_merges 8 := ⟨(xm 1008 (by decide +kernel) (by decide +kernel)), (xm 44 (by decide +kernel) (by decide +kernel)), _, rfl, rfl⟩
theorem cw_M_handles : xCw m_M_handles := ⟨(xm 1017 (by decide +kernel) (by decide +kernel)), (xm 63 (by decide +kernel) (by decide +kernel)), ⟨by decide, by decide⟩, by decide, rfl, by decide⟩
theorem in_M_handles : xIn m_M_handles 8 := ⟨(xm 1016 (by decide +kernel) (by decide +kernel)), (xm 46 (by decide +kernel) (by decide +kernel)), _, rfl, rfl⟩
theorem cw_M_votes : xCw m_M_votes := ⟨(xm 1025 (by decide +kernel) (by decide +kernel)), (xm 63 (by decide +kernel) (by decide +kernel)), ⟨by decide, by decide⟩, by decide, rfl, by decide⟩
theorem in_M_votes : xIn m_M_votes 8 := ⟨(xm 1024 (by decide +kernel) (by decide +kernel)), (xm 48 (by decide +kernel) (by decide +kernel)), _, rfl, rfl⟩
theorem cw_M_answers : xCw m_M_answers := ⟨(xm 1037 (by decide +kernel) (by decide +kernel)), (xm 63 (by decide +kernel) (by decide +kernel)), ⟨by decide, by decide⟩, by decide, rfl, by decide⟩
theorem in_M_answers : xIn m_M_answers 8 := ⟨(xm 1036 (by decide +kernel) (by decide +kernel)), (xm 51 (by decide +kernel) (by decide +kernel)), _, rfl, rfl⟩
theorem cw_M_isFree : xCw m_M_isFree := ⟨(xm 840 (by decide +kernel) (by decide +kernel)), (xm 63 (by decide +kernel) (by decide +kernel)), ⟨by decide, by decide⟩, by decide, rfl, by decide⟩
theorem in_M_isFree : xIn m_M_isFree 8 := ⟨(xm 839 (by decide +kernel) (by decide +kernel)), (xm 14 (by decide +kernel) (by decide +kernel)), _, rfl, rfl⟩
theorem cw_M_starts : xCw m_M_starts := ⟨(xm 858 (by decide +kernel) (by decide +kernel)), (xm 63 (by decide +kernel) (by decide +kernel)), ⟨by decide, by decide⟩, by decide, rfl, by decide⟩
theorem in_M_starts : xIn m_M_starts 8 := ⟨(xm 857 (by decide +kernel) (by decide +kernel)), (xm 17 (by decide +kernel) (by decide +kernel)), _, rfl, rfl⟩
theorem cw_M_read : xCw m_M_read := ⟨(xm 836 (by decide +kernel) (by decide +kernel)), (xm 63 (by decide +kernel) (by decide +kernel)), ⟨by decide, by decide⟩, by decide, rfl, by decide⟩
theorem in_M_read : xIn m_M_read 8 := ⟨(xm 834 (by decide +kernel) (by decide +kernel)), (xm 835 (by decide +kernel) (by decide +kernel)), _, rfl, rfl⟩
theorem cw_M_write : xCw m_M_write := ⟨(xm 973 (by decide +kernel) (by decide +kernel)), (xm 63 (by decide +kernel) (by decide +kernel)), ⟨by decide, by decide⟩, by decide, rfl, by decide⟩
theorem in_M_write : xIn m_M_write 8 := ⟨(xm 971 (by decide +kernel) (by decide +kernel)), (xm 972 (by decide +kernel) (by decide +kernel)), _, rfl, rfl⟩
theorem cw_M_propose : xCw m_M_propose := ⟨(xm 977 (by decide +kernel) (by decide +kernel)), (xm 63 (by decide +kernel) (by decide +kernel)), ⟨by decide, by decide⟩, by decide, rfl, by decide⟩
theorem in_M_propose : xIn m_M_propose 8 := ⟨(xm 975 (by decide +kernel) (by decide +kernel)), (xm 976 (by decide +kernel) (by decide +kernel)), _, rfl, rfl⟩
theorem cw_M_retire : xCw m_M_retire := ⟨(xm 981 (by decide +kernel) (by decide +kernel)), (xm 63 (by decide +kernel) (by decide +kernel)), ⟨by decide, by decide⟩, by decide, rfl, by decide⟩
theorem in_M_retire : xIn m_M_retire 8 := ⟨(xm 979 (by decide +kernel) (by decide +kernel)), (xm 980 (by decide +kernel) (by decide +kernel)), _, rfl, rfl⟩
theorem cw_M_again : xCw m_M_again := ⟨(xm 989 (by decide +kernel) (by decide +kernel)), (xm 63 (by decide +kernel) (by decide +kernel)), ⟨by decide, by decide⟩, by decide, rfl, by decide⟩
theorem in_M_again : xIn m_M_again 8 := ⟨(xm 987 (by decide +kernel) (by decide +kernel)), (xm 988 (by decide +kernel) (by decide +kernel)), _, rfl, rfl⟩
theorem cw_M_gossip : xCw m_M_gossip := ⟨(xm 993 (by decide +kernel) (by decide +kernel)), (xm 63 (by decide +kernel) (by decide +kernel)), ⟨by decide, by decide⟩, by decide, rfl, by decide⟩
theorem in_M_gossip : xIn m_M_gossip 8 := ⟨(xm 991 (by decide +kernel) (by decide +kernel)), (xm 992 (by decide +kernel) (by decide +kernel)), _, rfl, rfl⟩
theorem cw_M_join : xCw m_M_join := ⟨(xm 997 (by decide +kernel) (by decide +kernel)), (xm 63 (by decide +kernel) (by decide +kernel)), ⟨by decide, by decide⟩, by decide, rfl, by decide⟩
theorem in_M_join : xIn m_M_join 8 := ⟨(xm 995 (by decide +kernel) (by decide +kernel)), (xm 996 (by decide +kernel) (by decide +kernel)), _, rfl, rfl⟩
theorem cw_M_deliver : xCw m_M_deliver := ⟨(xm 1001 (by decide +kernel) (by decide +kernel)), (xm 63 (by decide +kernel) (by decide +kernel)), ⟨by decide, by decide⟩, by decide, rfl, by decide⟩
theorem in_M_deliver : xIn m_M_deliver 8 := ⟨(xm 999 (by decide +kernel) (by decide +kernel)), (xm 1000 (by decide +kernel) (by decide +kernel)), _, rfl, rfl⟩
theorem cw_M_lose : xCw m_M_lose := ⟨(xm 1045 (by decide +kernel) (by decide +kernel)), (xm 63 (by decide +kernel) (by decide +kernel)), ⟨by decide, by decide⟩, by decide, rfl, by decide⟩
theorem in_M_lose : xIn m_M_lose 8 := ⟨(xm 1043 (by decide +kernel) (by decide +kernel)), (xm 1044 (by decide +kernel) (by decide +kernel)), _, rfl, rfl⟩
theorem cw_M_twice : xCw m_M_twice := ⟨(xm 1049 (by decide +kernel) (by decide +kernel)), (xm 63 (by decide +kernel) (by decide +kernel)), ⟨by decide, by decide⟩, by decide, rfl, by decide⟩
theorem in_M_twice : xIn m_M_twice 8 := ⟨(xm 1047 (by decide +kernel) (by decide +kernel)), (xm 1048 (by decide +kernel) (by decide +kernel)), _, rfl, rfl⟩
theorem cw_M_crash : xCw m_M_crash := ⟨(xm 1053 (by decide +kernel) (by decide +kernel)), (xm 63 (by decide +kernel) (by decide +kernel)), ⟨by decide, by decide⟩, by decide, rfl, by decide⟩
theorem in_M_crash : xIn m_M_crash 8 := ⟨(xm 1051 (by decide +kernel) (by decide +kernel)), (xm 1052 (by decide +kernel) (by decide +kernel)), _, rfl, rfl⟩
theorem cw_M_restart : xCw m_M_restart := ⟨(xm 1057 (by decide +kernel) (by decide +kernel)), (xm 63 (by decide +kernel) (by decide +kernel)), ⟨by decide, by decide⟩, by decide, rfl, by decide⟩
theorem in_M_restart : xIn m_M_restart 8 := ⟨(xm 1055 (by decide +kernel) (by decide +kernel)), (xm 1056 (by decide +kernel) (by decide +kernel)), _, rfl, rfl⟩
theorem cw_M_arm : xCw m_M_arm := ⟨(xm 1061 (by decide +kernel) (by decide +kernel)), (xm 63 (by decide +kernel) (by decide +kernel)), ⟨by decide, by decide⟩, by decide, rfl, by decide⟩
theorem in_M_arm : xIn m_M_arm 8 := ⟨(xm 1059 (by decide +kernel) (by decide +kernel)), (xm 1060 (by decide +kernel) (by decide +kernel)), _, rfl, rfl⟩
theorem cw_M_node : xCw m_M_node := ⟨(xm 1065 (by decide +kernel) (by decide +kernel)), (xm 63 (by decide +kernel) (by decide +kernel)), ⟨by decide, by decide⟩, by decide, rfl, by decide⟩
theorem in_M_node : xIn m_M_node 8 := ⟨(xm 1063 (by decide +kernel) (by decide +kernel)), (xm 1064 (by decide +kernel) (by decide +kernel)), _, rfl, rfl⟩
theorem cw_M_cell : xCw m_M_cell := ⟨(xm 1069 (by decide +kernel) (by decide +kernel)), (xm 63 (by decide +kernel) (by decide +kernel)), ⟨by decide, by decide⟩, by decide, rfl, by decide⟩
theorem in_M_cell : xIn m_M_cell 8 := ⟨(xm 1067 (by decide +kernel) (by decide +kernel)), (xm 1068 (by decide +kernel) (by decide +kernel)), _, rfl, rfl⟩
theorem cw_M_map : xCw m_M_map := ⟨(xm 1073 (by decide +kernel) (by decide +kernel)), (xm 63 (by decide +kernel) (by decide +kernel)), ⟨by decide, by decide⟩, by decide, rfl, by decide⟩
theorem in_M_map : xIn m_M_map 8 := ⟨(xm 1071 (by decide +kernel) (by decide +kernel)), (xm 1072 (by decide +kernel) (by decide +kernel)), _, rfl, rfl⟩
theorem cw_M_task : xCw m_M_task := ⟨(xm 1077 (by decide +kernel) (by decide +kernel)), (xm 63 (by decide +kernel) (by decide +kernel)), ⟨by decide, by decide⟩, by decide, rfl, by decide⟩
theorem in_M_task : xIn m_M_task 8 := ⟨(xm 1075 (by decide +kernel) (by decide +kernel)), (xm 1076 (by decide +kernel) (by decide +kernel)), _, rfl, rfl⟩
theorem cw_M_message : xCw m_M_message := ⟨(xm 1081 (by decide +kernel) (by decide +kernel)), (xm 63 (by decide +kernel) (by decide +kernel)), ⟨by decide, by decide⟩, by decide, rfl, by decide⟩
theorem in_M_message : xIn m_M_message 8 := ⟨(xm 1079 (by decide +kernel) (by decide +kernel)), (xm 1080 (by decide +kernel) (by decide +kernel)), _, rfl, rfl⟩
theorem cw_M_count : xCw m_M_count := ⟨(xm 1085 (by decide +kernel) (by decide +kernel)), (xm 63 (by decide +kernel) (by decide +kernel)), ⟨by decide, by decide⟩, by decide, rfl, by decide⟩
theorem in_M_count : xIn m_M_count 8 := ⟨(xm 1083 (by decide +kernel) (by decide +kernel)), (xm 1084 (by decide +kernel) (by decide +kernel)), _, rfl, rfl⟩
theorem cw_Co_init : xCw m_Co_init := ⟨(xm 107 (by decide +kernel) (by decide +kernel)), (xm 58 (by decide +kernel) (by decide +kernel)), ⟨by decide, by decide⟩, by decide, rfl, by decide⟩
theorem im_Co_init : Cond.instanceMethod m_Co_init.2.1 ∈ xT := (xm 106 (by decide +kernel) (by decide +kernel))
theorem cw_Co_numberOf : xCw m_Co_numberOf := ⟨(xm 548 (by decide +kernel) (by decide +kernel)), (xm 58 (by decide +kernel) (by decide +kernel)), ⟨by decide, by decide⟩, by decide, rfl, by decide⟩
theorem in_Co_numberOf : xIn m_Co_numberOf 1 := ⟨(xm 546 (by decide +kernel) (by decide +kernel)), (xm 547 (by decide +kernel) (by decide +kernel)), _, rfl, rfl⟩
theorem cw_Co_writerOf : xCw m_Co_writerOf := ⟨(xm 685 (by decide +kernel) (by decide +kernel)), (xm 58 (by decide +kernel) (by decide +kernel)), ⟨by decide, by decide⟩, by decide, rfl, by decide⟩
theorem in_Co_writerOf : xIn m_Co_writerOf 1 := ⟨(xm 683 (by decide +kernel) (by decide +kernel)), (xm 684 (by decide +kernel) (by decide +kernel)), _, rfl, rfl⟩
theorem cw_Co_valueOf : xCw m_Co_valueOf := ⟨(xm 575 (by decide +kernel) (by decide +kernel)), (xm 58 (by decide +kernel) (by decide +kernel)), ⟨by decide, by decide⟩, by decide, rfl, by decide⟩
theorem in_Co_valueOf : xIn m_Co_valueOf 1 := ⟨(xm 573 (by decide +kernel) (by decide +kernel)), (xm 574 (by decide +kernel) (by decide +kernel)), _, rfl, rfl⟩
theorem cw_Co_put : xCw m_Co_put := ⟨(xm 552 (by decide +kernel) (by decide +kernel)), (xm 58 (by decide +kernel) (by decide +kernel)), ⟨by decide, by decide⟩, by decide, rfl, by decide⟩
theorem in_Co_put : xIn m_Co_put 1 := ⟨(xm 550 (by decide +kernel) (by decide +kernel)), (xm 551 (by decide +kernel) (by decide +kernel)), _, rfl, rfl⟩
theorem cw_Co_copyFrom : xCw m_Co_copyFrom := ⟨(xm 391 (by decide +kernel) (by decide +kernel)), (xm 58 (by decide +kernel) (by decide +kernel)), ⟨by decide, by decide⟩, by decide, rfl, by decide⟩
theorem in_Co_copyFrom : xIn m_Co_copyFrom 1 := ⟨(xm 389 (by decide +kernel) (by decide +kernel)), (xm 390 (by decide +kernel) (by decide +kernel)), _, rfl, rfl⟩
theorem cw_Co_takeGreater : xCw m_Co_takeGreater := ⟨(xm 501 (by decide +kernel) (by decide +kernel)), (xm 58 (by decide +kernel) (by decide +kernel)), ⟨by decide, by decide⟩, by decide, rfl, by decide⟩
theorem in_Co_takeGreater : xIn m_Co_takeGreater 1 := ⟨(xm 499 (by decide +kernel) (by decide +kernel)), (xm 500 (by decide +kernel) (by decide +kernel)), _, rfl, rfl⟩
theorem cw_Co_putFrom : xCw m_Co_putFrom := ⟨(xm 468 (by decide +kernel) (by decide +kernel)), (xm 58 (by decide +kernel) (by decide +kernel)), ⟨by decide, by decide⟩, by decide, rfl, by decide⟩
theorem in_Co_putFrom : xIn m_Co_putFrom 1 := ⟨(xm 466 (by decide +kernel) (by decide +kernel)), (xm 467 (by decide +kernel) (by decide +kernel)), _, rfl, rfl⟩
theorem cw_Co_isLess : xCw m_Co_isLess := ⟨(xm 463 (by decide +kernel) (by decide +kernel)), (xm 58 (by decide +kernel) (by decide +kernel)), ⟨by decide, by decide⟩, by decide, rfl, by decide⟩
theorem in_Co_isLess : xIn m_Co_isLess 1 := ⟨(xm 461 (by decide +kernel) (by decide +kernel)), (xm 462 (by decide +kernel) (by decide +kernel)), _, rfl, rfl⟩
theorem cw_Ma_init : xCw m_Ma_init := ⟨(xm 80 (by decide +kernel) (by decide +kernel)), (xm 55 (by decide +kernel) (by decide +kernel)), ⟨by decide, by decide⟩, by decide, rfl, by decide⟩
theorem im_Ma_init : Cond.instanceMethod m_Ma_init.2.1 ∈ xT := (xm 79 (by decide +kernel) (by decide +kernel))
theorem cw_Ma_row : xCw m_Ma_row := ⟨(xm 624 (by decide +kernel) (by decide +kernel)), (xm 55 (by decide +kernel) (by decide +kernel)), ⟨by decide, by decide⟩, by decide, rfl, by decide⟩
theorem in_Ma_row : xIn m_Ma_row 2 := ⟨(xm 622 (by decide +kernel) (by decide +kernel)), (xm 623 (by decide +kernel) (by decide +kernel)), _, rfl, rfl⟩
theorem cw_Ma_send : xCw m_Ma_send := ⟨(xm 508 (by decide +kernel) (by decide +kernel)), (xm 55 (by decide +kernel) (by decide +kernel)), ⟨by decide, by decide⟩, by decide, rfl, by decide⟩
theorem in_Ma_send : xIn m_Ma_send 2 := ⟨(xm 506 (by decide +kernel) (by decide +kernel)), (xm 507 (by decide +kernel) (by decide +kernel)), _, rfl, rfl⟩
theorem cw_Ma_takeOut : xCw m_Ma_takeOut := ⟨(xm 620 (by decide +kernel) (by decide +kernel)), (xm 55 (by decide +kernel) (by decide +kernel)), ⟨by decide, by decide⟩, by decide, rfl, by decide⟩
theorem in_Ma_takeOut : xIn m_Ma_takeOut 2 := ⟨(xm 618 (by decide +kernel) (by decide +kernel)), (xm 619 (by decide +kernel) (by decide +kernel)), _, rfl, rfl⟩
theorem cw_Me_init : xCw m_Me_init := ⟨(xm 87 (by decide +kernel) (by decide +kernel)), (xm 56 (by decide +kernel) (by decide +kernel)), ⟨by decide, by decide⟩, by decide, rfl, by decide⟩
theorem im_Me_init : Cond.instanceMethod m_Me_init.2.1 ∈ xT := (xm 86 (by decide +kernel) (by decide +kernel))
theorem cw_Me_hasTag : xCw m_Me_hasTag := ⟨(xm 702 (by decide +kernel) (by decide +kernel)), (xm 56 (by decide +kernel) (by decide +kernel)), ⟨by decide, by decide⟩, by decide, rfl, by decide⟩
theorem in_Me_hasTag : xIn m_Me_hasTag 3 := ⟨(xm 700 (by decide +kernel) (by decide +kernel)), (xm 701 (by decide +kernel) (by decide +kernel)), _, rfl, rfl⟩
theorem cw_Me_clear : xCw m_Me_clear := ⟨(xm 439 (by decide +kernel) (by decide +kernel)), (xm 56 (by decide +kernel) (by decide +kernel)), ⟨by decide, by decide⟩, by decide, rfl, by decide⟩
theorem in_Me_clear : xIn m_Me_clear 3 := ⟨(xm 437 (by decide +kernel) (by decide +kernel)), (xm 438 (by decide +kernel) (by decide +kernel)), _, rfl, rfl⟩
theorem cw_Me_open : xCw m_Me_open := ⟨(xm 435 (by decide +kernel) (by decide +kernel)), (xm 56 (by decide +kernel) (by decide +kernel)), ⟨by decide, by decide⟩, by decide, rfl, by decide⟩
theorem in_Me_open : xIn m_Me_open 3 := ⟨(xm 433 (by decide +kernel) (by decide +kernel)), (xm 434 (by decide +kernel) (by decide +kernel)), _, rfl, rfl⟩
theorem cw_Me_openAnswer : xCw m_Me_openAnswer := ⟨(xm 453 (by decide +kernel) (by decide +kernel)), (xm 56 (by decide +kernel) (by decide +kernel)), ⟨by decide, by decide⟩, by decide, rfl, by decide⟩
theorem in_Me_openAnswer : xIn m_Me_openAnswer 3 := ⟨(xm 451 (by decide +kernel) (by decide +kernel)), (xm 452 (by decide +kernel) (by decide +kernel)), _, rfl, rfl⟩
theorem cw_Me_copyFrom : xCw m_Me_copyFrom := ⟨(xm 512 (by decide +kernel) (by decide +kernel)), (xm 56 (by decide +kernel) (by decide +kernel)), ⟨by decide, by decide⟩, by decide, rfl, by decide⟩
theorem in_Me_copyFrom : xIn m_Me_copyFrom 3 := ⟨(xm 510 (by decide +kernel) (by decide +kernel)), (xm 511 (by decide +kernel) (by decide +kernel)), _, rfl, rfl⟩
theorem cw_No_init : xCw m_No_init := ⟨(xm 192 (by decide +kernel) (by decide +kernel)), (xm 60 (by decide +kernel) (by decide +kernel)), ⟨by decide, by decide⟩, by decide, rfl, by decide⟩
theorem im_No_init : Cond.instanceMethod m_No_init.2.1 ∈ xT := (xm 191 (by decide +kernel) (by decide +kernel))
theorem cw_No_isUp : xCw m_No_isUp := ⟨(xm 367 (by decide +kernel) (by decide +kernel)), (xm 60 (by decide +kernel) (by decide +kernel)), ⟨by decide, by decide⟩, by decide, rfl, by decide⟩
theorem in_No_isUp : xIn m_No_isUp 4 := ⟨(xm 365 (by decide +kernel) (by decide +kernel)), (xm 366 (by decide +kernel) (by decide +kernel)), _, rfl, rfl⟩
theorem cw_No_isBusy : xCw m_No_isBusy := ⟨(xm 371 (by decide +kernel) (by decide +kernel)), (xm 60 (by decide +kernel) (by decide +kernel)), ⟨by decide, by decide⟩, by decide, rfl, by decide⟩
theorem in_No_isBusy : xIn m_No_isBusy 4 := ⟨(xm 369 (by decide +kernel) (by decide +kernel)), (xm 370 (by decide +kernel) (by decide +kernel)), _, rfl, rfl⟩
theorem cw_No_fall : xCw m_No_fall := ⟨(xm 406 (by decide +kernel) (by decide +kernel)), (xm 60 (by decide +kernel) (by decide +kernel)), ⟨by decide, by decide⟩, by decide, rfl, by decide⟩
theorem in_No_fall : xIn m_No_fall 4 := ⟨(xm 404 (by decide +kernel) (by decide +kernel)), (xm 405 (by decide +kernel) (by decide +kernel)), _, rfl, rfl⟩
theorem cw_No_mayWrite : xCw m_No_mayWrite := ⟨(xm 402 (by decide +kernel) (by decide +kernel)), (xm 60 (by decide +kernel) (by decide +kernel)), ⟨by decide, by decide⟩, by decide, rfl, by decide⟩
theorem in_No_mayWrite : xIn m_No_mayWrite 4 := ⟨(xm 400 (by decide +kernel) (by decide +kernel)), (xm 401 (by decide +kernel) (by decide +kernel)), _, rfl, rfl⟩
theorem cw_No_openPhase : xCw m_No_openPhase := ⟨(xm 387 (by decide +kernel) (by decide +kernel)), (xm 60 (by decide +kernel) (by decide +kernel)), ⟨by decide, by decide⟩, by decide, rfl, by decide⟩
theorem in_No_openPhase : xIn m_No_openPhase 4 := ⟨(xm 385 (by decide +kernel) (by decide +kernel)), (xm 386 (by decide +kernel) (by decide +kernel)), _, rfl, rfl⟩
theorem cw_No_raiseRound : xCw m_No_raiseRound := ⟨(xm 398 (by decide +kernel) (by decide +kernel)), (xm 60 (by decide +kernel) (by decide +kernel)), ⟨by decide, by decide⟩, by decide, rfl, by decide⟩
theorem in_No_raiseRound : xIn m_No_raiseRound 4 := ⟨(xm 396 (by decide +kernel) (by decide +kernel)), (xm 397 (by decide +kernel) (by decide +kernel)), _, rfl, rfl⟩
theorem cw_No_take : xCw m_No_take := ⟨(xm 457 (by decide +kernel) (by decide +kernel)), (xm 60 (by decide +kernel) (by decide +kernel)), ⟨by decide, by decide⟩, by decide, rfl, by decide⟩
theorem in_No_take : xIn m_No_take 4 := ⟨(xm 455 (by decide +kernel) (by decide +kernel)), (xm 456 (by decide +kernel) (by decide +kernel)), _, rfl, rfl⟩
theorem cw_No_merge : xCw m_No_merge := ⟨(xm 628 (by decide +kernel) (by decide +kernel)), (xm 60 (by decide +kernel) (by decide +kernel)), ⟨by decide, by decide⟩, by decide, rfl, by decide⟩
theorem in_No_merge : xIn m_No_merge 4 := ⟨(xm 626 (by decide +kernel) (by decide +kernel)), (xm 627 (by decide +kernel) (by decide +kernel)), _, rfl, rfl⟩
theorem cw_No_mark : xCw m_No_mark := ⟨(xm 563 (by decide +kernel) (by decide +kernel)), (xm 60 (by decide +kernel) (by decide +kernel)), ⟨by decide, by decide⟩, by decide, rfl, by decide⟩
theorem in_No_mark : xIn m_No_mark 4 := ⟨(xm 561 (by decide +kernel) (by decide +kernel)), (xm 562 (by decide +kernel) (by decide +kernel)), _, rfl, rfl⟩
theorem cw_Se_init : xCw m_Se_init := ⟨(xm 93 (by decide +kernel) (by decide +kernel)), (xm 57 (by decide +kernel) (by decide +kernel)), ⟨by decide, by decide⟩, by decide, rfl, by decide⟩
theorem im_Se_init : Cond.instanceMethod m_Se_init.2.1 ∈ xT := (xm 92 (by decide +kernel) (by decide +kernel))
theorem cw_Se_stateOf : xCw m_Se_stateOf := ⟨(xm 568 (by decide +kernel) (by decide +kernel)), (xm 57 (by decide +kernel) (by decide +kernel)), ⟨by decide, by decide⟩, by decide, rfl, by decide⟩
theorem in_Se_stateOf : xIn m_Se_stateOf 5 := ⟨(xm 566 (by decide +kernel) (by decide +kernel)), (xm 567 (by decide +kernel) (by decide +kernel)), _, rfl, rfl⟩
theorem cw_Se_configurationOf : xCw m_Se_configurationOf := ⟨(xm 524 (by decide +kernel) (by decide +kernel)), (xm 57 (by decide +kernel) (by decide +kernel)), ⟨by decide, by decide⟩, by decide, rfl, by decide⟩
theorem in_Se_configurationOf : xIn m_Se_configurationOf 5 := ⟨(xm 522 (by decide +kernel) (by decide +kernel)), (xm 523 (by decide +kernel) (by decide +kernel)), _, rfl, rfl⟩
theorem cw_Se_put : xCw m_Se_put := ⟨(xm 329 (by decide +kernel) (by decide +kernel)), (xm 57 (by decide +kernel) (by decide +kernel)), ⟨by decide, by decide⟩, by decide, rfl, by decide⟩
theorem in_Se_put : xIn m_Se_put 5 := ⟨(xm 327 (by decide +kernel) (by decide +kernel)), (xm 328 (by decide +kernel) (by decide +kernel)), _, rfl, rfl⟩
theorem cw_Se_having : xCw m_Se_having := ⟨(xm 375 (by decide +kernel) (by decide +kernel)), (xm 57 (by decide +kernel) (by decide +kernel)), ⟨by decide, by decide⟩, by decide, rfl, by decide⟩
theorem in_Se_having : xIn m_Se_having 5 := ⟨(xm 373 (by decide +kernel) (by decide +kernel)), (xm 374 (by decide +kernel) (by decide +kernel)), _, rfl, rfl⟩
theorem cw_Se_membersOfAll : xCw m_Se_membersOfAll := ⟨(xm 418 (by decide +kernel) (by decide +kernel)), (xm 57 (by decide +kernel) (by decide +kernel)), ⟨by decide, by decide⟩, by decide, rfl, by decide⟩
theorem in_Se_membersOfAll : xIn m_Se_membersOfAll 5 := ⟨(xm 416 (by decide +kernel) (by decide +kernel)), (xm 417 (by decide +kernel) (by decide +kernel)), _, rfl, rfl⟩
theorem cw_Se_copyFrom : xCw m_Se_copyFrom := ⟨(xm 443 (by decide +kernel) (by decide +kernel)), (xm 57 (by decide +kernel) (by decide +kernel)), ⟨by decide, by decide⟩, by decide, rfl, by decide⟩
theorem in_Se_copyFrom : xIn m_Se_copyFrom 5 := ⟨(xm 441 (by decide +kernel) (by decide +kernel)), (xm 442 (by decide +kernel) (by decide +kernel)), _, rfl, rfl⟩
theorem cw_Se_isBehind : xCw m_Se_isBehind := ⟨(xm 632 (by decide +kernel) (by decide +kernel)), (xm 57 (by decide +kernel) (by decide +kernel)), ⟨by decide, by decide⟩, by decide, rfl, by decide⟩
theorem in_Se_isBehind : xIn m_Se_isBehind 5 := ⟨(xm 630 (by decide +kernel) (by decide +kernel)), (xm 631 (by decide +kernel) (by decide +kernel)), _, rfl, rfl⟩
theorem cw_Se_takeGreater : xCw m_Se_takeGreater := ⟨(xm 636 (by decide +kernel) (by decide +kernel)), (xm 57 (by decide +kernel) (by decide +kernel)), ⟨by decide, by decide⟩, by decide, rfl, by decide⟩
theorem in_Se_takeGreater : xIn m_Se_takeGreater 5 := ⟨(xm 634 (by decide +kernel) (by decide +kernel)), (xm 635 (by decide +kernel) (by decide +kernel)), _, rfl, rfl⟩
theorem cw_Ta_init : xCw m_Ta_init := ⟨(xm 218 (by decide +kernel) (by decide +kernel)), (xm 62 (by decide +kernel) (by decide +kernel)), ⟨by decide, by decide⟩, by decide, rfl, by decide⟩
theorem im_Ta_init : Cond.instanceMethod m_Ta_init.2.1 ∈ xT := (xm 217 (by decide +kernel) (by decide +kernel))
theorem cw_Ta_isOfObject : xCw m_Ta_isOfObject := ⟨(xm 556 (by decide +kernel) (by decide +kernel)), (xm 62 (by decide +kernel) (by decide +kernel)), ⟨by decide, by decide⟩, by decide, rfl, by decide⟩
theorem in_Ta_isOfObject : xIn m_Ta_isOfObject 6 := ⟨(xm 554 (by decide +kernel) (by decide +kernel)), (xm 555 (by decide +kernel) (by decide +kernel)), _, rfl, rfl⟩
theorem cw_Ta_open : xCw m_Ta_open := ⟨(xm 379 (by decide +kernel) (by decide +kernel)), (xm 62 (by decide +kernel) (by decide +kernel)), ⟨by decide, by decide⟩, by decide, rfl, by decide⟩
theorem in_Ta_open : xIn m_Ta_open 6 := ⟨(xm 377 (by decide +kernel) (by decide +kernel)), (xm 378 (by decide +kernel) (by decide +kernel)), _, rfl, rfl⟩
theorem cw_Vo_init : xCw m_Vo_init := ⟨(xm 202 (by decide +kernel) (by decide +kernel)), (xm 61 (by decide +kernel) (by decide +kernel)), ⟨by decide, by decide⟩, by decide, rfl, by decide⟩
theorem im_Vo_init : Cond.instanceMethod m_Vo_init.2.1 ∈ xT := (xm 201 (by decide +kernel) (by decide +kernel))
theorem cw_Vo_promisedAt : xCw m_Vo_promisedAt := ⟨(xm 476 (by decide +kernel) (by decide +kernel)), (xm 61 (by decide +kernel) (by decide +kernel)), ⟨by decide, by decide⟩, by decide, rfl, by decide⟩
theorem in_Vo_promisedAt : xIn m_Vo_promisedAt 7 := ⟨(xm 474 (by decide +kernel) (by decide +kernel)), (xm 475 (by decide +kernel) (by decide +kernel)), _, rfl, rfl⟩
theorem cw_Vo_acceptedAt : xCw m_Vo_acceptedAt := ⟨(xm 481 (by decide +kernel) (by decide +kernel)), (xm 61 (by decide +kernel) (by decide +kernel)), ⟨by decide, by decide⟩, by decide, rfl, by decide⟩
theorem in_Vo_acceptedAt : xIn m_Vo_acceptedAt 7 := ⟨(xm 479 (by decide +kernel) (by decide +kernel)), (xm 480 (by decide +kernel) (by decide +kernel)), _, rfl, rfl⟩
theorem cw_Vo_configurationAt : xCw m_Vo_configurationAt := ⟨(xm 485 (by decide +kernel) (by decide +kernel)), (xm 61 (by decide +kernel) (by decide +kernel)), ⟨by decide, by decide⟩, by decide, rfl, by decide⟩
theorem in_Vo_configurationAt : xIn m_Vo_configurationAt 7 := ⟨(xm 483 (by decide +kernel) (by decide +kernel)), (xm 484 (by decide +kernel) (by decide +kernel)), _, rfl, rfl⟩
theorem cw_Vo_isAs : xCw m_Vo_isAs := ⟨(xm 494 (by decide +kernel) (by decide +kernel)), (xm 61 (by decide +kernel) (by decide +kernel)), ⟨by decide, by decide⟩, by decide, rfl, by decide⟩
theorem in_Vo_isAs : xIn m_Vo_isAs 7 := ⟨(xm 492 (by decide +kernel) (by decide +kernel)), (xm 493 (by decide +kernel) (by decide +kernel)), _, rfl, rfl⟩
theorem cw_Vo_put : xCw m_Vo_put := ⟨(xm 490 (by decide +kernel) (by decide +kernel)), (xm 61 (by decide +kernel) (by decide +kernel)), ⟨by decide, by decide⟩, by decide, rfl, by decide⟩
theorem in_Vo_put : xIn m_Vo_put 7 := ⟨(xm 488 (by decide +kernel) (by decide +kernel)), (xm 489 (by decide +kernel) (by decide +kernel)), _, rfl, rfl⟩
theorem cw_L_cell : xCw m_L_cell := ⟨(xm 717 (by decide +kernel) (by decide +kernel)), (xm 53 (by decide +kernel) (by decide +kernel)), ⟨by decide, by decide⟩, by decide, rfl, by decide⟩
theorem st_L_cell : Cond.static m_L_cell.2.1 ∈ xT := (xm 716 (by decide +kernel) (by decide +kernel))
theorem cw_JI_bitCount : xCw m_JI_bitCount := ⟨(xm 528 (by decide +kernel) (by decide +kernel)), (xm 65 (by decide +kernel) (by decide +kernel)), ⟨by decide, by decide⟩, by decide, rfl, by decide⟩
theorem st_JI_bitCount : Cond.static m_JI_bitCount.2.1 ∈ xT := (xm 527 (by decide +kernel) (by decide +kernel))
theorem ns_L_7 : xNs R_L 7 0 5 [.null, .null, .null, .null, .int 0] := ⟨R_Q, F_Q, t_Q, rfl, ix_Q, t_Q_ok, (xm 66 (by decide +kernel) (by decide +kernel)), (xm 67 (by decide +kernel) (by decide +kernel)), (xm 54 (by decide +kernel) (by decide +kernel)), fun j hj b base => by
  have hj : j < 5 := hj
  match j, hj with
  | 0, _ => rfl
  | 1, _ => rfl
  | 2, _ => rfl
  | 3, _ => rfl
  | 4, _ => rfl
  | n + 5, h => omega⟩
theorem cl_L_7 : Cond.classLink R_L 7 "QuorumNodes" ∈ xT := (xm 66 (by decide +kernel) (by decide +kernel))
theorem lk_L_15 : xLk R_L 15 m_Q_init 3 := ⟨cw_Q_init, (xm 68 (by decide +kernel) (by decide +kernel)), by decide +kernel⟩
theorem oi_Q_3 : xOi R_Q 3 := ⟨(xm 71 (by decide +kernel) (by decide +kernel)), (xm 72 (by decide +kernel) (by decide +kernel)), (xm 73 (by decide +kernel) (by decide +kernel))⟩
theorem ns_Q_9 : xNs R_Q 9 4 11 [.int 0, .int 0, .int 0, .int 0, .int 0, .int 0, .int 0, .null, .null, .null, .null] := ⟨R_No, F_No, t_No, rfl, ix_No, t_No_ok, (xm 74 (by decide +kernel) (by decide +kernel)), (xm 189 (by decide +kernel) (by decide +kernel)), (xm 60 (by decide +kernel) (by decide +kernel)), fun j hj b base => by
  have hj : j < 11 := hj
  match j, hj with
  | 0, _ => rfl
  | 1, _ => rfl
  | 2, _ => rfl
  | 3, _ => rfl
  | 4, _ => rfl
  | 5, _ => rfl
  | 6, _ => rfl
  | 7, _ => rfl
  | 8, _ => rfl
  | 9, _ => rfl
  | 10, _ => rfl
  | n + 11, h => omega⟩
theorem cl_Q_9 : Cond.classLink R_Q 9 "QuorumNodes$Node" ∈ xT := (xm 74 (by decide +kernel) (by decide +kernel))
theorem ao_No : Cond.arrayOver (.object "QuorumNodes$Node") ∈ xU := (xmU 75 (by decide +kernel) rfl)
theorem ns_Q_15 : xNs R_Q 15 2 4 [.null, .null, .int 0, .int 0] := ⟨R_Ma, F_Ma, t_Ma, rfl, ix_Ma, t_Ma_ok, (xm 76 (by decide +kernel) (by decide +kernel)), (xm 77 (by decide +kernel) (by decide +kernel)), (xm 55 (by decide +kernel) (by decide +kernel)), fun j hj b base => by
  have hj : j < 4 := hj
  match j, hj with
  | 0, _ => rfl
  | 1, _ => rfl
  | 2, _ => rfl
  | 3, _ => rfl
  | n + 4, h => omega⟩
theorem cl_Q_15 : Cond.classLink R_Q 15 "QuorumNodes$Mail" ∈ xT := (xm 76 (by decide +kernel) (by decide +kernel))
theorem lk_Q_17 : xLk R_Q 17 m_Ma_init 0 := ⟨cw_Ma_init, (xm 78 (by decide +kernel) (by decide +kernel)), by decide +kernel⟩
theorem oi_Ma_3 : xOi R_Ma 3 := ⟨(xm 81 (by decide +kernel) (by decide +kernel)), (xm 72 (by decide +kernel) (by decide +kernel)), (xm 73 (by decide +kernel) (by decide +kernel))⟩
theorem ns_Ma_9 : xNs R_Ma 9 3 10 [.int 0, .int 0, .int 0, .int 0, .int 0, .int 0, .int 0, .int 0, .null, .null] := ⟨R_Me, F_Me, t_Me, rfl, ix_Me, t_Me_ok, (xm 82 (by decide +kernel) (by decide +kernel)), (xm 84 (by decide +kernel) (by decide +kernel)), (xm 56 (by decide +kernel) (by decide +kernel)), fun j hj b base => by
  have hj : j < 10 := hj
  match j, hj with
  | 0, _ => rfl
  | 1, _ => rfl
  | 2, _ => rfl
  | 3, _ => rfl
  | 4, _ => rfl
  | 5, _ => rfl
  | 6, _ => rfl
  | 7, _ => rfl
  | 8, _ => rfl
  | 9, _ => rfl
  | n + 10, h => omega⟩
theorem cl_Ma_9 : Cond.classLink R_Ma 9 "QuorumNodes$Message" ∈ xT := (xm 82 (by decide +kernel) (by decide +kernel))
theorem ao_Me : Cond.arrayOver (.object "QuorumNodes$Message") ∈ xU := (xmU 83 (by decide +kernel) rfl)
theorem ln_Ma_17 : xLn R_Ma 17 "QuorumNodes" m_Me_init 0 := ⟨cw_Me_init, (xmU 85 (by decide +kernel) rfl), by decide +kernel⟩
theorem oi_Me_3 : xOi R_Me 3 := ⟨(xm 88 (by decide +kernel) (by decide +kernel)), (xm 72 (by decide +kernel) (by decide +kernel)), (xm 73 (by decide +kernel) (by decide +kernel))⟩
theorem ns_Me_9 : xNs R_Me 9 5 2 [.null, .null] := ⟨R_Se, F_Se, t_Se, rfl, ix_Se, t_Se_ok, (xm 89 (by decide +kernel) (by decide +kernel)), (xm 90 (by decide +kernel) (by decide +kernel)), (xm 57 (by decide +kernel) (by decide +kernel)), fun j hj b base => by
  have hj : j < 2 := hj
  match j, hj with
  | 0, _ => rfl
  | 1, _ => rfl
  | n + 2, h => omega⟩
theorem cl_Me_9 : Cond.classLink R_Me 9 "QuorumNodes$Sets" ∈ xT := (xm 89 (by decide +kernel) (by decide +kernel))
theorem ln_Me_11 : xLn R_Me 11 "QuorumNodes" m_Se_init 0 := ⟨cw_Se_init, (xmU 91 (by decide +kernel) rfl), by decide +kernel⟩
theorem oi_Se_3 : xOi R_Se 3 := ⟨(xm 94 (by decide +kernel) (by decide +kernel)), (xm 72 (by decide +kernel) (by decide +kernel)), (xm 73 (by decide +kernel) (by decide +kernel))⟩
theorem fs_Se_9 : xFs R_Se 9 5 0 (.array .int) true := ⟨R_Se, F_Se, 2, t_Se, rfl, ix_Se, t_Se_ok, n_Se, by decide, (xm 95 (by decide +kernel) (by decide +kernel)), rfl, rfl, fun _ => rfl⟩
theorem fr_Se_9 : xFr R_Se 9 5 0 := ⟨R_Se, F_Se, 2, t_Se, rfl, ix_Se, t_Se_ok, n_Se, by decide, (xm 95 (by decide +kernel) (by decide +kernel))⟩
theorem fs_Se_15 : xFs R_Se 15 5 1 (.array .int) true := ⟨R_Se, F_Se, 2, t_Se, rfl, ix_Se, t_Se_ok, n_Se, by decide, (xm 96 (by decide +kernel) (by decide +kernel)), rfl, rfl, fun _ => rfl⟩
theorem fr_Se_15 : xFr R_Se 15 5 1 := ⟨R_Se, F_Se, 2, t_Se, rfl, ix_Se, t_Se_ok, n_Se, by decide, (xm 96 (by decide +kernel) (by decide +kernel))⟩
theorem aI : Cond.arrayClass .int ∈ xT := (xm 102 (by decide +kernel) (by decide +kernel))
theorem ns_Me_18 : xNs R_Me 18 1 3 [.null, .null, .null] := ⟨R_Co, F_Co, t_Co, rfl, ix_Co, t_Co_ok, (xm 103 (by decide +kernel) (by decide +kernel)), (xm 104 (by decide +kernel) (by decide +kernel)), (xm 58 (by decide +kernel) (by decide +kernel)), fun j hj b base => by
  have hj : j < 3 := hj
  match j, hj with
  | 0, _ => rfl
  | 1, _ => rfl
  | 2, _ => rfl
  | n + 3, h => omega⟩
theorem cl_Me_18 : Cond.classLink R_Me 18 "QuorumNodes$Copies" ∈ xT := (xm 103 (by decide +kernel) (by decide +kernel))
theorem ln_Me_20 : xLn R_Me 20 "QuorumNodes" m_Co_init 0 := ⟨cw_Co_init, (xmU 105 (by decide +kernel) rfl), by decide +kernel⟩
theorem oi_Co_3 : xOi R_Co 3 := ⟨(xm 108 (by decide +kernel) (by decide +kernel)), (xm 72 (by decide +kernel) (by decide +kernel)), (xm 73 (by decide +kernel) (by decide +kernel))⟩
theorem fs_Co_9 : xFs R_Co 9 1 0 (.array .int) true := ⟨R_Co, F_Co, 3, t_Co, rfl, ix_Co, t_Co_ok, n_Co, by decide, (xm 109 (by decide +kernel) (by decide +kernel)), rfl, rfl, fun _ => rfl⟩
theorem fr_Co_9 : xFr R_Co 9 1 0 := ⟨R_Co, F_Co, 3, t_Co, rfl, ix_Co, t_Co_ok, n_Co, by decide, (xm 109 (by decide +kernel) (by decide +kernel))⟩
theorem fs_Co_15 : xFs R_Co 15 1 1 (.array .int) true := ⟨R_Co, F_Co, 3, t_Co, rfl, ix_Co, t_Co_ok, n_Co, by decide, (xm 110 (by decide +kernel) (by decide +kernel)), rfl, rfl, fun _ => rfl⟩
theorem fr_Co_15 : xFr R_Co 15 1 1 := ⟨R_Co, F_Co, 3, t_Co, rfl, ix_Co, t_Co_ok, n_Co, by decide, (xm 110 (by decide +kernel) (by decide +kernel))⟩
theorem fs_Co_18 : xFs R_Co 18 1 2 (.array .int) true := ⟨R_Co, F_Co, 3, t_Co, rfl, ix_Co, t_Co_ok, n_Co, by decide, (xm 111 (by decide +kernel) (by decide +kernel)), rfl, rfl, fun _ => rfl⟩
theorem fr_Co_18 : xFr R_Co 18 1 2 := ⟨R_Co, F_Co, 3, t_Co, rfl, ix_Co, t_Co_ok, n_Co, by decide, (xm 111 (by decide +kernel) (by decide +kernel))⟩
theorem fs_Me_25 : xFs R_Me 25 3 0 (.int) false := ⟨R_Me, F_Me, 10, t_Me, rfl, ix_Me, t_Me_ok, n_Me, by decide, (xm 119 (by decide +kernel) (by decide +kernel)), rfl, rfl, fun h => by cases h⟩
theorem fr_Me_25 : xFr R_Me 25 3 0 := ⟨R_Me, F_Me, 10, t_Me, rfl, ix_Me, t_Me_ok, n_Me, by decide, (xm 119 (by decide +kernel) (by decide +kernel))⟩
theorem fs_Q_175 : xFs R_Q 175 3 0 (.int) false := ⟨R_Me, F_Me, 10, t_Me, rfl, ix_Me, t_Me_ok, n_Me, by decide, (xm 120 (by decide +kernel) (by decide +kernel)), rfl, rfl, fun h => by cases h⟩
theorem fr_Q_175 : xFr R_Q 175 3 0 := ⟨R_Me, F_Me, 10, t_Me, rfl, ix_Me, t_Me_ok, n_Me, by decide, (xm 120 (by decide +kernel) (by decide +kernel))⟩
theorem fs_Me_52 : xFs R_Me 52 3 1 (.int) false := ⟨R_Me, F_Me, 10, t_Me, rfl, ix_Me, t_Me_ok, n_Me, by decide, (xm 121 (by decide +kernel) (by decide +kernel)), rfl, rfl, fun h => by cases h⟩
theorem fr_Me_52 : xFr R_Me 52 3 1 := ⟨R_Me, F_Me, 10, t_Me, rfl, ix_Me, t_Me_ok, n_Me, by decide, (xm 121 (by decide +kernel) (by decide +kernel))⟩
theorem fs_Q_270 : xFs R_Q 270 3 1 (.int) false := ⟨R_Me, F_Me, 10, t_Me, rfl, ix_Me, t_Me_ok, n_Me, by decide, (xm 122 (by decide +kernel) (by decide +kernel)), rfl, rfl, fun h => by cases h⟩
theorem fr_Q_270 : xFr R_Q 270 3 1 := ⟨R_Me, F_Me, 10, t_Me, rfl, ix_Me, t_Me_ok, n_Me, by decide, (xm 122 (by decide +kernel) (by decide +kernel))⟩
theorem fs_Me_55 : xFs R_Me 55 3 2 (.int) false := ⟨R_Me, F_Me, 10, t_Me, rfl, ix_Me, t_Me_ok, n_Me, by decide, (xm 123 (by decide +kernel) (by decide +kernel)), rfl, rfl, fun h => by cases h⟩
theorem fr_Me_55 : xFr R_Me 55 3 2 := ⟨R_Me, F_Me, 10, t_Me, rfl, ix_Me, t_Me_ok, n_Me, by decide, (xm 123 (by decide +kernel) (by decide +kernel))⟩
theorem fs_Q_163 : xFs R_Q 163 3 2 (.int) false := ⟨R_Me, F_Me, 10, t_Me, rfl, ix_Me, t_Me_ok, n_Me, by decide, (xm 124 (by decide +kernel) (by decide +kernel)), rfl, rfl, fun h => by cases h⟩
theorem fr_Q_163 : xFr R_Q 163 3 2 := ⟨R_Me, F_Me, 10, t_Me, rfl, ix_Me, t_Me_ok, n_Me, by decide, (xm 124 (by decide +kernel) (by decide +kernel))⟩
theorem fs_Me_29 : xFs R_Me 29 3 3 (.int) false := ⟨R_Me, F_Me, 10, t_Me, rfl, ix_Me, t_Me_ok, n_Me, by decide, (xm 125 (by decide +kernel) (by decide +kernel)), rfl, rfl, fun h => by cases h⟩
theorem fr_Me_29 : xFr R_Me 29 3 3 := ⟨R_Me, F_Me, 10, t_Me, rfl, ix_Me, t_Me_ok, n_Me, by decide, (xm 125 (by decide +kernel) (by decide +kernel))⟩
theorem fs_Q_273 : xFs R_Q 273 3 3 (.int) false := ⟨R_Me, F_Me, 10, t_Me, rfl, ix_Me, t_Me_ok, n_Me, by decide, (xm 126 (by decide +kernel) (by decide +kernel)), rfl, rfl, fun h => by cases h⟩
theorem fr_Q_273 : xFr R_Q 273 3 3 := ⟨R_Me, F_Me, 10, t_Me, rfl, ix_Me, t_Me_ok, n_Me, by decide, (xm 126 (by decide +kernel) (by decide +kernel))⟩
theorem fs_Me_32 : xFs R_Me 32 3 4 (.int) false := ⟨R_Me, F_Me, 10, t_Me, rfl, ix_Me, t_Me_ok, n_Me, by decide, (xm 127 (by decide +kernel) (by decide +kernel)), rfl, rfl, fun h => by cases h⟩
theorem fr_Me_32 : xFr R_Me 32 3 4 := ⟨R_Me, F_Me, 10, t_Me, rfl, ix_Me, t_Me_ok, n_Me, by decide, (xm 127 (by decide +kernel) (by decide +kernel))⟩
theorem fs_Q_274 : xFs R_Q 274 3 4 (.int) false := ⟨R_Me, F_Me, 10, t_Me, rfl, ix_Me, t_Me_ok, n_Me, by decide, (xm 128 (by decide +kernel) (by decide +kernel)), rfl, rfl, fun h => by cases h⟩
theorem fr_Q_274 : xFr R_Q 274 3 4 := ⟨R_Me, F_Me, 10, t_Me, rfl, ix_Me, t_Me_ok, n_Me, by decide, (xm 128 (by decide +kernel) (by decide +kernel))⟩
theorem fs_Me_35 : xFs R_Me 35 3 5 (.int) false := ⟨R_Me, F_Me, 10, t_Me, rfl, ix_Me, t_Me_ok, n_Me, by decide, (xm 129 (by decide +kernel) (by decide +kernel)), rfl, rfl, fun h => by cases h⟩
theorem fr_Me_35 : xFr R_Me 35 3 5 := ⟨R_Me, F_Me, 10, t_Me, rfl, ix_Me, t_Me_ok, n_Me, by decide, (xm 129 (by decide +kernel) (by decide +kernel))⟩
theorem fs_Q_275 : xFs R_Q 275 3 5 (.int) false := ⟨R_Me, F_Me, 10, t_Me, rfl, ix_Me, t_Me_ok, n_Me, by decide, (xm 130 (by decide +kernel) (by decide +kernel)), rfl, rfl, fun h => by cases h⟩
theorem fr_Q_275 : xFr R_Q 275 3 5 := ⟨R_Me, F_Me, 10, t_Me, rfl, ix_Me, t_Me_ok, n_Me, by decide, (xm 130 (by decide +kernel) (by decide +kernel))⟩
theorem fs_Me_38 : xFs R_Me 38 3 6 (.int) false := ⟨R_Me, F_Me, 10, t_Me, rfl, ix_Me, t_Me_ok, n_Me, by decide, (xm 131 (by decide +kernel) (by decide +kernel)), rfl, rfl, fun h => by cases h⟩
theorem fr_Me_38 : xFr R_Me 38 3 6 := ⟨R_Me, F_Me, 10, t_Me, rfl, ix_Me, t_Me_ok, n_Me, by decide, (xm 131 (by decide +kernel) (by decide +kernel))⟩
theorem fs_Q_279 : xFs R_Q 279 3 6 (.int) false := ⟨R_Me, F_Me, 10, t_Me, rfl, ix_Me, t_Me_ok, n_Me, by decide, (xm 132 (by decide +kernel) (by decide +kernel)), rfl, rfl, fun h => by cases h⟩
theorem fr_Q_279 : xFr R_Q 279 3 6 := ⟨R_Me, F_Me, 10, t_Me, rfl, ix_Me, t_Me_ok, n_Me, by decide, (xm 132 (by decide +kernel) (by decide +kernel))⟩
theorem fs_Me_41 : xFs R_Me 41 3 7 (.int) false := ⟨R_Me, F_Me, 10, t_Me, rfl, ix_Me, t_Me_ok, n_Me, by decide, (xm 133 (by decide +kernel) (by decide +kernel)), rfl, rfl, fun h => by cases h⟩
theorem fr_Me_41 : xFr R_Me 41 3 7 := ⟨R_Me, F_Me, 10, t_Me, rfl, ix_Me, t_Me_ok, n_Me, by decide, (xm 133 (by decide +kernel) (by decide +kernel))⟩
theorem fs_Q_280 : xFs R_Q 280 3 7 (.int) false := ⟨R_Me, F_Me, 10, t_Me, rfl, ix_Me, t_Me_ok, n_Me, by decide, (xm 134 (by decide +kernel) (by decide +kernel)), rfl, rfl, fun h => by cases h⟩
theorem fr_Q_280 : xFr R_Q 280 3 7 := ⟨R_Me, F_Me, 10, t_Me, rfl, ix_Me, t_Me_ok, n_Me, by decide, (xm 134 (by decide +kernel) (by decide +kernel))⟩
theorem fs_Me_12 : xFs R_Me 12 3 8 (.object "QuorumNodes$Sets") true := ⟨R_Me, F_Me, 10, t_Me, rfl, ix_Me, t_Me_ok, n_Me, by decide, (xm 135 (by decide +kernel) (by decide +kernel)), rfl, rfl, fun _ => rfl⟩
theorem fr_Me_12 : xFr R_Me 12 3 8 := ⟨R_Me, F_Me, 10, t_Me, rfl, ix_Me, t_Me_ok, n_Me, by decide, (xm 135 (by decide +kernel) (by decide +kernel))⟩
theorem fr_Q_166 : xFr R_Q 166 3 8 := ⟨R_Me, F_Me, 10, t_Me, rfl, ix_Me, t_Me_ok, n_Me, by decide, (xm 136 (by decide +kernel) (by decide +kernel))⟩
theorem fs_Me_21 : xFs R_Me 21 3 9 (.object "QuorumNodes$Copies") true := ⟨R_Me, F_Me, 10, t_Me, rfl, ix_Me, t_Me_ok, n_Me, by decide, (xm 137 (by decide +kernel) (by decide +kernel)), rfl, rfl, fun _ => rfl⟩
theorem fr_Me_21 : xFr R_Me 21 3 9 := ⟨R_Me, F_Me, 10, t_Me, rfl, ix_Me, t_Me_ok, n_Me, by decide, (xm 137 (by decide +kernel) (by decide +kernel))⟩
theorem fr_Q_142 : xFr R_Q 142 3 9 := ⟨R_Me, F_Me, 10, t_Me, rfl, ix_Me, t_Me_ok, n_Me, by decide, (xm 138 (by decide +kernel) (by decide +kernel))⟩
theorem fs_Ma_11 : xFs R_Ma 11 2 0 (.array (.object "QuorumNodes$Message")) true := ⟨R_Ma, F_Ma, 4, t_Ma, rfl, ix_Ma, t_Ma_ok, n_Ma, by decide, (xm 160 (by decide +kernel) (by decide +kernel)), rfl, rfl, fun _ => rfl⟩
theorem fr_Ma_11 : xFr R_Ma 11 2 0 := ⟨R_Ma, F_Ma, 4, t_Ma, rfl, ix_Ma, t_Ma_ok, n_Ma, by decide, (xm 160 (by decide +kernel) (by decide +kernel))⟩
theorem fs_Ma_18 : xFs R_Ma 18 2 1 (.object "QuorumNodes$Message") false := ⟨R_Ma, F_Ma, 4, t_Ma, rfl, ix_Ma, t_Ma_ok, n_Ma, by decide, (xm 161 (by decide +kernel) (by decide +kernel)), rfl, rfl, fun h => by cases h⟩
theorem fr_Ma_18 : xFr R_Ma 18 2 1 := ⟨R_Ma, F_Ma, 4, t_Ma, rfl, ix_Ma, t_Ma_ok, n_Ma, by decide, (xm 161 (by decide +kernel) (by decide +kernel))⟩
theorem fs_Ma_22 : xFs R_Ma 22 2 2 (.int) false := ⟨R_Ma, F_Ma, 4, t_Ma, rfl, ix_Ma, t_Ma_ok, n_Ma, by decide, (xm 162 (by decide +kernel) (by decide +kernel)), rfl, rfl, fun h => by cases h⟩
theorem fr_Ma_22 : xFr R_Ma 22 2 2 := ⟨R_Ma, F_Ma, 4, t_Ma, rfl, ix_Ma, t_Ma_ok, n_Ma, by decide, (xm 162 (by decide +kernel) (by decide +kernel))⟩
theorem fs_Q_192 : xFs R_Q 192 2 2 (.int) false := ⟨R_Ma, F_Ma, 4, t_Ma, rfl, ix_Ma, t_Ma_ok, n_Ma, by decide, (xm 163 (by decide +kernel) (by decide +kernel)), rfl, rfl, fun h => by cases h⟩
theorem fr_Q_192 : xFr R_Q 192 2 2 := ⟨R_Ma, F_Ma, 4, t_Ma, rfl, ix_Ma, t_Ma_ok, n_Ma, by decide, (xm 163 (by decide +kernel) (by decide +kernel))⟩
theorem fs_Ma_26 : xFs R_Ma 26 2 3 (.int) false := ⟨R_Ma, F_Ma, 4, t_Ma, rfl, ix_Ma, t_Ma_ok, n_Ma, by decide, (xm 164 (by decide +kernel) (by decide +kernel)), rfl, rfl, fun h => by cases h⟩
theorem fr_Ma_26 : xFr R_Ma 26 2 3 := ⟨R_Ma, F_Ma, 4, t_Ma, rfl, ix_Ma, t_Ma_ok, n_Ma, by decide, (xm 164 (by decide +kernel) (by decide +kernel))⟩
theorem fs_Q_289 : xFs R_Q 289 2 3 (.int) false := ⟨R_Ma, F_Ma, 4, t_Ma, rfl, ix_Ma, t_Ma_ok, n_Ma, by decide, (xm 165 (by decide +kernel) (by decide +kernel)), rfl, rfl, fun h => by cases h⟩
theorem fr_Q_289 : xFr R_Q 289 2 3 := ⟨R_Ma, F_Ma, 4, t_Ma, rfl, ix_Ma, t_Ma_ok, n_Ma, by decide, (xm 165 (by decide +kernel) (by decide +kernel))⟩
theorem ns_Q_22 : xNs R_Q 22 3 10 [.int 0, .int 0, .int 0, .int 0, .int 0, .int 0, .int 0, .int 0, .null, .null] := ⟨R_Me, F_Me, t_Me, rfl, ix_Me, t_Me_ok, (xm 175 (by decide +kernel) (by decide +kernel)), (xm 84 (by decide +kernel) (by decide +kernel)), (xm 56 (by decide +kernel) (by decide +kernel)), fun j hj b base => by
  have hj : j < 10 := hj
  match j, hj with
  | 0, _ => rfl
  | 1, _ => rfl
  | 2, _ => rfl
  | 3, _ => rfl
  | 4, _ => rfl
  | 5, _ => rfl
  | 6, _ => rfl
  | 7, _ => rfl
  | 8, _ => rfl
  | 9, _ => rfl
  | n + 10, h => omega⟩
theorem cl_Q_22 : Cond.classLink R_Q 22 "QuorumNodes$Message" ∈ xT := (xm 175 (by decide +kernel) (by decide +kernel))
theorem ln_Q_24 : xLn R_Q 24 "QuorumNodes" m_Me_init 0 := ⟨cw_Me_init, (xmU 176 (by decide +kernel) rfl), by decide +kernel⟩
theorem lk_Q_36 : xLk R_Q 36 m_Q_nearest 2 := ⟨cw_Q_nearest, (xm 177 (by decide +kernel) (by decide +kernel)), by decide +kernel⟩
theorem mn_Q_295 : xMn R_Q 295 := ⟨(xm 180 (by decide +kernel) (by decide +kernel)), (xm 181 (by decide +kernel) (by decide +kernel)), (xm 59 (by decide +kernel) (by decide +kernel)), (xm 182 (by decide +kernel) (by decide +kernel))⟩
theorem mx_Q_40 : xMx R_Q 40 := ⟨(xm 183 (by decide +kernel) (by decide +kernel)), (xm 184 (by decide +kernel) (by decide +kernel)), (xm 59 (by decide +kernel) (by decide +kernel)), (xm 185 (by decide +kernel) (by decide +kernel))⟩
theorem lk_Q_45 : xLk R_Q 45 m_Q_configuration 3 := ⟨cw_Q_configuration, (xm 186 (by decide +kernel) (by decide +kernel)), by decide +kernel⟩
theorem lk_Q_49 : xLk R_Q 49 m_No_init 1 := ⟨cw_No_init, (xm 190 (by decide +kernel) (by decide +kernel)), by decide +kernel⟩
theorem oi_No_3 : xOi R_No 3 := ⟨(xm 193 (by decide +kernel) (by decide +kernel)), (xm 72 (by decide +kernel) (by decide +kernel)), (xm 73 (by decide +kernel) (by decide +kernel))⟩
theorem ns_No_30 : xNs R_No 30 1 3 [.null, .null, .null] := ⟨R_Co, F_Co, t_Co, rfl, ix_Co, t_Co_ok, (xm 194 (by decide +kernel) (by decide +kernel)), (xm 104 (by decide +kernel) (by decide +kernel)), (xm 58 (by decide +kernel) (by decide +kernel)), fun j hj b base => by
  have hj : j < 3 := hj
  match j, hj with
  | 0, _ => rfl
  | 1, _ => rfl
  | 2, _ => rfl
  | n + 3, h => omega⟩
theorem cl_No_30 : Cond.classLink R_No 30 "QuorumNodes$Copies" ∈ xT := (xm 194 (by decide +kernel) (by decide +kernel))
theorem ln_No_32 : xLn R_No 32 "QuorumNodes" m_Co_init 0 := ⟨cw_Co_init, (xmU 195 (by decide +kernel) rfl), by decide +kernel⟩
theorem ns_No_37 : xNs R_No 37 5 2 [.null, .null] := ⟨R_Se, F_Se, t_Se, rfl, ix_Se, t_Se_ok, (xm 196 (by decide +kernel) (by decide +kernel)), (xm 90 (by decide +kernel) (by decide +kernel)), (xm 57 (by decide +kernel) (by decide +kernel)), fun j hj b base => by
  have hj : j < 2 := hj
  match j, hj with
  | 0, _ => rfl
  | 1, _ => rfl
  | n + 2, h => omega⟩
theorem cl_No_37 : Cond.classLink R_No 37 "QuorumNodes$Sets" ∈ xT := (xm 196 (by decide +kernel) (by decide +kernel))
theorem ln_No_39 : xLn R_No 39 "QuorumNodes" m_Se_init 0 := ⟨cw_Se_init, (xmU 197 (by decide +kernel) rfl), by decide +kernel⟩
theorem ns_No_44 : xNs R_No 44 7 3 [.null, .null, .null] := ⟨R_Vo, F_Vo, t_Vo, rfl, ix_Vo, t_Vo_ok, (xm 198 (by decide +kernel) (by decide +kernel)), (xm 199 (by decide +kernel) (by decide +kernel)), (xm 61 (by decide +kernel) (by decide +kernel)), fun j hj b base => by
  have hj : j < 3 := hj
  match j, hj with
  | 0, _ => rfl
  | 1, _ => rfl
  | 2, _ => rfl
  | n + 3, h => omega⟩
theorem cl_No_44 : Cond.classLink R_No 44 "QuorumNodes$Votes" ∈ xT := (xm 198 (by decide +kernel) (by decide +kernel))
theorem ln_No_46 : xLn R_No 46 "QuorumNodes" m_Vo_init 0 := ⟨cw_Vo_init, (xmU 200 (by decide +kernel) rfl), by decide +kernel⟩
theorem oi_Vo_3 : xOi R_Vo 3 := ⟨(xm 203 (by decide +kernel) (by decide +kernel)), (xm 72 (by decide +kernel) (by decide +kernel)), (xm 73 (by decide +kernel) (by decide +kernel))⟩
theorem fs_Vo_9 : xFs R_Vo 9 7 0 (.array .int) true := ⟨R_Vo, F_Vo, 3, t_Vo, rfl, ix_Vo, t_Vo_ok, n_Vo, by decide, (xm 204 (by decide +kernel) (by decide +kernel)), rfl, rfl, fun _ => rfl⟩
theorem fr_Vo_9 : xFr R_Vo 9 7 0 := ⟨R_Vo, F_Vo, 3, t_Vo, rfl, ix_Vo, t_Vo_ok, n_Vo, by decide, (xm 204 (by decide +kernel) (by decide +kernel))⟩
theorem fs_Vo_15 : xFs R_Vo 15 7 1 (.array .int) true := ⟨R_Vo, F_Vo, 3, t_Vo, rfl, ix_Vo, t_Vo_ok, n_Vo, by decide, (xm 205 (by decide +kernel) (by decide +kernel)), rfl, rfl, fun _ => rfl⟩
theorem fr_Vo_15 : xFr R_Vo 15 7 1 := ⟨R_Vo, F_Vo, 3, t_Vo, rfl, ix_Vo, t_Vo_ok, n_Vo, by decide, (xm 205 (by decide +kernel) (by decide +kernel))⟩
theorem fs_Vo_18 : xFs R_Vo 18 7 2 (.array .int) true := ⟨R_Vo, F_Vo, 3, t_Vo, rfl, ix_Vo, t_Vo_ok, n_Vo, by decide, (xm 206 (by decide +kernel) (by decide +kernel)), rfl, rfl, fun _ => rfl⟩
theorem fr_Vo_18 : xFr R_Vo 18 7 2 := ⟨R_Vo, F_Vo, 3, t_Vo, rfl, ix_Vo, t_Vo_ok, n_Vo, by decide, (xm 206 (by decide +kernel) (by decide +kernel))⟩
theorem ns_No_51 : xNs R_No 51 6 14 [.int 0, .int 0, .int 0, .int 0, .int 0, .int 0, .int 0, .int 0, .int 0, .int 0, .int 0, .int 0, .int 0, .null] := ⟨R_Ta, F_Ta, t_Ta, rfl, ix_Ta, t_Ta_ok, (xm 214 (by decide +kernel) (by decide +kernel)), (xm 215 (by decide +kernel) (by decide +kernel)), (xm 62 (by decide +kernel) (by decide +kernel)), fun j hj b base => by
  have hj : j < 14 := hj
  match j, hj with
  | 0, _ => rfl
  | 1, _ => rfl
  | 2, _ => rfl
  | 3, _ => rfl
  | 4, _ => rfl
  | 5, _ => rfl
  | 6, _ => rfl
  | 7, _ => rfl
  | 8, _ => rfl
  | 9, _ => rfl
  | 10, _ => rfl
  | 11, _ => rfl
  | 12, _ => rfl
  | 13, _ => rfl
  | n + 14, h => omega⟩
theorem cl_No_51 : Cond.classLink R_No 51 "QuorumNodes$Task" ∈ xT := (xm 214 (by decide +kernel) (by decide +kernel))
theorem ln_No_53 : xLn R_No 53 "QuorumNodes" m_Ta_init 0 := ⟨cw_Ta_init, (xmU 216 (by decide +kernel) rfl), by decide +kernel⟩
theorem oi_Ta_3 : xOi R_Ta 3 := ⟨(xm 219 (by decide +kernel) (by decide +kernel)), (xm 72 (by decide +kernel) (by decide +kernel)), (xm 73 (by decide +kernel) (by decide +kernel))⟩
theorem ns_Ta_9 : xNs R_Ta 9 1 3 [.null, .null, .null] := ⟨R_Co, F_Co, t_Co, rfl, ix_Co, t_Co_ok, (xm 220 (by decide +kernel) (by decide +kernel)), (xm 104 (by decide +kernel) (by decide +kernel)), (xm 58 (by decide +kernel) (by decide +kernel)), fun j hj b base => by
  have hj : j < 3 := hj
  match j, hj with
  | 0, _ => rfl
  | 1, _ => rfl
  | 2, _ => rfl
  | n + 3, h => omega⟩
theorem cl_Ta_9 : Cond.classLink R_Ta 9 "QuorumNodes$Copies" ∈ xT := (xm 220 (by decide +kernel) (by decide +kernel))
theorem ln_Ta_11 : xLn R_Ta 11 "QuorumNodes" m_Co_init 0 := ⟨cw_Co_init, (xmU 221 (by decide +kernel) rfl), by decide +kernel⟩
theorem fs_Ta_22 : xFs R_Ta 22 6 0 (.int) false := ⟨R_Ta, F_Ta, 14, t_Ta, rfl, ix_Ta, t_Ta_ok, n_Ta, by decide, (xm 222 (by decide +kernel) (by decide +kernel)), rfl, rfl, fun h => by cases h⟩
theorem fr_Ta_22 : xFr R_Ta 22 6 0 := ⟨R_Ta, F_Ta, 14, t_Ta, rfl, ix_Ta, t_Ta_ok, n_Ta, by decide, (xm 222 (by decide +kernel) (by decide +kernel))⟩
theorem fs_No_64 : xFs R_No 64 6 0 (.int) false := ⟨R_Ta, F_Ta, 14, t_Ta, rfl, ix_Ta, t_Ta_ok, n_Ta, by decide, (xm 223 (by decide +kernel) (by decide +kernel)), rfl, rfl, fun h => by cases h⟩
theorem fr_No_64 : xFr R_No 64 6 0 := ⟨R_Ta, F_Ta, 14, t_Ta, rfl, ix_Ta, t_Ta_ok, n_Ta, by decide, (xm 223 (by decide +kernel) (by decide +kernel))⟩
theorem fs_Q_249 : xFs R_Q 249 6 0 (.int) false := ⟨R_Ta, F_Ta, 14, t_Ta, rfl, ix_Ta, t_Ta_ok, n_Ta, by decide, (xm 224 (by decide +kernel) (by decide +kernel)), rfl, rfl, fun h => by cases h⟩
theorem fr_Q_249 : xFr R_Q 249 6 0 := ⟨R_Ta, F_Ta, 14, t_Ta, rfl, ix_Ta, t_Ta_ok, n_Ta, by decide, (xm 224 (by decide +kernel) (by decide +kernel))⟩
theorem fs_Ta_18 : xFs R_Ta 18 6 1 (.int) false := ⟨R_Ta, F_Ta, 14, t_Ta, rfl, ix_Ta, t_Ta_ok, n_Ta, by decide, (xm 225 (by decide +kernel) (by decide +kernel)), rfl, rfl, fun h => by cases h⟩
theorem fr_Ta_18 : xFr R_Ta 18 6 1 := ⟨R_Ta, F_Ta, 14, t_Ta, rfl, ix_Ta, t_Ta_ok, n_Ta, by decide, (xm 225 (by decide +kernel) (by decide +kernel))⟩
theorem fs_Q_123 : xFs R_Q 123 6 1 (.int) false := ⟨R_Ta, F_Ta, 14, t_Ta, rfl, ix_Ta, t_Ta_ok, n_Ta, by decide, (xm 226 (by decide +kernel) (by decide +kernel)), rfl, rfl, fun h => by cases h⟩
theorem fr_Q_123 : xFr R_Q 123 6 1 := ⟨R_Ta, F_Ta, 14, t_Ta, rfl, ix_Ta, t_Ta_ok, n_Ta, by decide, (xm 226 (by decide +kernel) (by decide +kernel))⟩
theorem fs_No_61 : xFs R_No 61 6 2 (.int) false := ⟨R_Ta, F_Ta, 14, t_Ta, rfl, ix_Ta, t_Ta_ok, n_Ta, by decide, (xm 227 (by decide +kernel) (by decide +kernel)), rfl, rfl, fun h => by cases h⟩
theorem fr_No_61 : xFr R_No 61 6 2 := ⟨R_Ta, F_Ta, 14, t_Ta, rfl, ix_Ta, t_Ta_ok, n_Ta, by decide, (xm 227 (by decide +kernel) (by decide +kernel))⟩
theorem fs_Ta_28 : xFs R_Ta 28 6 2 (.int) false := ⟨R_Ta, F_Ta, 14, t_Ta, rfl, ix_Ta, t_Ta_ok, n_Ta, by decide, (xm 228 (by decide +kernel) (by decide +kernel)), rfl, rfl, fun h => by cases h⟩
theorem fr_Ta_28 : xFr R_Ta 28 6 2 := ⟨R_Ta, F_Ta, 14, t_Ta, rfl, ix_Ta, t_Ta_ok, n_Ta, by decide, (xm 228 (by decide +kernel) (by decide +kernel))⟩
theorem fs_Q_252 : xFs R_Q 252 6 2 (.int) false := ⟨R_Ta, F_Ta, 14, t_Ta, rfl, ix_Ta, t_Ta_ok, n_Ta, by decide, (xm 229 (by decide +kernel) (by decide +kernel)), rfl, rfl, fun h => by cases h⟩
theorem fr_Q_252 : xFr R_Q 252 6 2 := ⟨R_Ta, F_Ta, 14, t_Ta, rfl, ix_Ta, t_Ta_ok, n_Ta, by decide, (xm 229 (by decide +kernel) (by decide +kernel))⟩
theorem fs_Ta_25 : xFs R_Ta 25 6 3 (.int) false := ⟨R_Ta, F_Ta, 14, t_Ta, rfl, ix_Ta, t_Ta_ok, n_Ta, by decide, (xm 230 (by decide +kernel) (by decide +kernel)), rfl, rfl, fun h => by cases h⟩
theorem fr_Ta_25 : xFr R_Ta 25 6 3 := ⟨R_Ta, F_Ta, 14, t_Ta, rfl, ix_Ta, t_Ta_ok, n_Ta, by decide, (xm 230 (by decide +kernel) (by decide +kernel))⟩
theorem fs_Q_255 : xFs R_Q 255 6 3 (.int) false := ⟨R_Ta, F_Ta, 14, t_Ta, rfl, ix_Ta, t_Ta_ok, n_Ta, by decide, (xm 231 (by decide +kernel) (by decide +kernel)), rfl, rfl, fun h => by cases h⟩
theorem fr_Q_255 : xFr R_Q 255 6 3 := ⟨R_Ta, F_Ta, 14, t_Ta, rfl, ix_Ta, t_Ta_ok, n_Ta, by decide, (xm 231 (by decide +kernel) (by decide +kernel))⟩
theorem fs_Ta_31 : xFs R_Ta 31 6 4 (.int) false := ⟨R_Ta, F_Ta, 14, t_Ta, rfl, ix_Ta, t_Ta_ok, n_Ta, by decide, (xm 232 (by decide +kernel) (by decide +kernel)), rfl, rfl, fun h => by cases h⟩
theorem fr_Ta_31 : xFr R_Ta 31 6 4 := ⟨R_Ta, F_Ta, 14, t_Ta, rfl, ix_Ta, t_Ta_ok, n_Ta, by decide, (xm 232 (by decide +kernel) (by decide +kernel))⟩
theorem fs_Q_258 : xFs R_Q 258 6 4 (.int) false := ⟨R_Ta, F_Ta, 14, t_Ta, rfl, ix_Ta, t_Ta_ok, n_Ta, by decide, (xm 233 (by decide +kernel) (by decide +kernel)), rfl, rfl, fun h => by cases h⟩
theorem fr_Q_258 : xFr R_Q 258 6 4 := ⟨R_Ta, F_Ta, 14, t_Ta, rfl, ix_Ta, t_Ta_ok, n_Ta, by decide, (xm 233 (by decide +kernel) (by decide +kernel))⟩
theorem fs_No_76 : xFs R_No 76 6 5 (.int) false := ⟨R_Ta, F_Ta, 14, t_Ta, rfl, ix_Ta, t_Ta_ok, n_Ta, by decide, (xm 234 (by decide +kernel) (by decide +kernel)), rfl, rfl, fun h => by cases h⟩
theorem fr_No_76 : xFr R_No 76 6 5 := ⟨R_Ta, F_Ta, 14, t_Ta, rfl, ix_Ta, t_Ta_ok, n_Ta, by decide, (xm 234 (by decide +kernel) (by decide +kernel))⟩
theorem fs_Q_132 : xFs R_Q 132 6 5 (.int) false := ⟨R_Ta, F_Ta, 14, t_Ta, rfl, ix_Ta, t_Ta_ok, n_Ta, by decide, (xm 235 (by decide +kernel) (by decide +kernel)), rfl, rfl, fun h => by cases h⟩
theorem fr_Q_132 : xFr R_Q 132 6 5 := ⟨R_Ta, F_Ta, 14, t_Ta, rfl, ix_Ta, t_Ta_ok, n_Ta, by decide, (xm 235 (by decide +kernel) (by decide +kernel))⟩
theorem fs_No_79 : xFs R_No 79 6 6 (.int) false := ⟨R_Ta, F_Ta, 14, t_Ta, rfl, ix_Ta, t_Ta_ok, n_Ta, by decide, (xm 236 (by decide +kernel) (by decide +kernel)), rfl, rfl, fun h => by cases h⟩
theorem fr_No_79 : xFr R_No 79 6 6 := ⟨R_Ta, F_Ta, 14, t_Ta, rfl, ix_Ta, t_Ta_ok, n_Ta, by decide, (xm 236 (by decide +kernel) (by decide +kernel))⟩
theorem fs_Q_135 : xFs R_Q 135 6 6 (.int) false := ⟨R_Ta, F_Ta, 14, t_Ta, rfl, ix_Ta, t_Ta_ok, n_Ta, by decide, (xm 237 (by decide +kernel) (by decide +kernel)), rfl, rfl, fun h => by cases h⟩
theorem fr_Q_135 : xFr R_Q 135 6 6 := ⟨R_Ta, F_Ta, 14, t_Ta, rfl, ix_Ta, t_Ta_ok, n_Ta, by decide, (xm 237 (by decide +kernel) (by decide +kernel))⟩
theorem fs_Ta_34 : xFs R_Ta 34 6 7 (.int) false := ⟨R_Ta, F_Ta, 14, t_Ta, rfl, ix_Ta, t_Ta_ok, n_Ta, by decide, (xm 238 (by decide +kernel) (by decide +kernel)), rfl, rfl, fun h => by cases h⟩
theorem fr_Ta_34 : xFr R_Ta 34 6 7 := ⟨R_Ta, F_Ta, 14, t_Ta, rfl, ix_Ta, t_Ta_ok, n_Ta, by decide, (xm 238 (by decide +kernel) (by decide +kernel))⟩
theorem fs_Q_267 : xFs R_Q 267 6 7 (.int) false := ⟨R_Ta, F_Ta, 14, t_Ta, rfl, ix_Ta, t_Ta_ok, n_Ta, by decide, (xm 239 (by decide +kernel) (by decide +kernel)), rfl, rfl, fun h => by cases h⟩
theorem fr_Q_267 : xFr R_Q 267 6 7 := ⟨R_Ta, F_Ta, 14, t_Ta, rfl, ix_Ta, t_Ta_ok, n_Ta, by decide, (xm 239 (by decide +kernel) (by decide +kernel))⟩
theorem fs_Q_88 : xFs R_Q 88 6 8 (.int) false := ⟨R_Ta, F_Ta, 14, t_Ta, rfl, ix_Ta, t_Ta_ok, n_Ta, by decide, (xm 240 (by decide +kernel) (by decide +kernel)), rfl, rfl, fun h => by cases h⟩
theorem fr_Q_88 : xFr R_Q 88 6 8 := ⟨R_Ta, F_Ta, 14, t_Ta, rfl, ix_Ta, t_Ta_ok, n_Ta, by decide, (xm 240 (by decide +kernel) (by decide +kernel))⟩
theorem fs_Ta_37 : xFs R_Ta 37 6 8 (.int) false := ⟨R_Ta, F_Ta, 14, t_Ta, rfl, ix_Ta, t_Ta_ok, n_Ta, by decide, (xm 241 (by decide +kernel) (by decide +kernel)), rfl, rfl, fun h => by cases h⟩
theorem fr_Ta_37 : xFr R_Ta 37 6 8 := ⟨R_Ta, F_Ta, 14, t_Ta, rfl, ix_Ta, t_Ta_ok, n_Ta, by decide, (xm 241 (by decide +kernel) (by decide +kernel))⟩
theorem fs_Ta_40 : xFs R_Ta 40 6 9 (.int) false := ⟨R_Ta, F_Ta, 14, t_Ta, rfl, ix_Ta, t_Ta_ok, n_Ta, by decide, (xm 242 (by decide +kernel) (by decide +kernel)), rfl, rfl, fun h => by cases h⟩
theorem fr_Ta_40 : xFr R_Ta 40 6 9 := ⟨R_Ta, F_Ta, 14, t_Ta, rfl, ix_Ta, t_Ta_ok, n_Ta, by decide, (xm 242 (by decide +kernel) (by decide +kernel))⟩
theorem fs_Q_108 : xFs R_Q 108 6 9 (.int) false := ⟨R_Ta, F_Ta, 14, t_Ta, rfl, ix_Ta, t_Ta_ok, n_Ta, by decide, (xm 243 (by decide +kernel) (by decide +kernel)), rfl, rfl, fun h => by cases h⟩
theorem fr_Q_108 : xFr R_Q 108 6 9 := ⟨R_Ta, F_Ta, 14, t_Ta, rfl, ix_Ta, t_Ta_ok, n_Ta, by decide, (xm 243 (by decide +kernel) (by decide +kernel))⟩
theorem fs_Q_307 : xFs R_Q 307 6 10 (.int) false := ⟨R_Ta, F_Ta, 14, t_Ta, rfl, ix_Ta, t_Ta_ok, n_Ta, by decide, (xm 244 (by decide +kernel) (by decide +kernel)), rfl, rfl, fun h => by cases h⟩
theorem fr_Q_307 : xFr R_Q 307 6 10 := ⟨R_Ta, F_Ta, 14, t_Ta, rfl, ix_Ta, t_Ta_ok, n_Ta, by decide, (xm 244 (by decide +kernel) (by decide +kernel))⟩
theorem fs_Q_310 : xFs R_Q 310 6 11 (.int) false := ⟨R_Ta, F_Ta, 14, t_Ta, rfl, ix_Ta, t_Ta_ok, n_Ta, by decide, (xm 245 (by decide +kernel) (by decide +kernel)), rfl, rfl, fun h => by cases h⟩
theorem fr_Q_310 : xFr R_Q 310 6 11 := ⟨R_Ta, F_Ta, 14, t_Ta, rfl, ix_Ta, t_Ta_ok, n_Ta, by decide, (xm 245 (by decide +kernel) (by decide +kernel))⟩
theorem fs_Ta_43 : xFs R_Ta 43 6 12 (.int) false := ⟨R_Ta, F_Ta, 14, t_Ta, rfl, ix_Ta, t_Ta_ok, n_Ta, by decide, (xm 246 (by decide +kernel) (by decide +kernel)), rfl, rfl, fun h => by cases h⟩
theorem fr_Ta_43 : xFr R_Ta 43 6 12 := ⟨R_Ta, F_Ta, 14, t_Ta, rfl, ix_Ta, t_Ta_ok, n_Ta, by decide, (xm 246 (by decide +kernel) (by decide +kernel))⟩
theorem fs_Q_116 : xFs R_Q 116 6 12 (.int) false := ⟨R_Ta, F_Ta, 14, t_Ta, rfl, ix_Ta, t_Ta_ok, n_Ta, by decide, (xm 247 (by decide +kernel) (by decide +kernel)), rfl, rfl, fun h => by cases h⟩
theorem fr_Q_116 : xFr R_Q 116 6 12 := ⟨R_Ta, F_Ta, 14, t_Ta, rfl, ix_Ta, t_Ta_ok, n_Ta, by decide, (xm 247 (by decide +kernel) (by decide +kernel))⟩
theorem fs_Ta_12 : xFs R_Ta 12 6 13 (.object "QuorumNodes$Copies") true := ⟨R_Ta, F_Ta, 14, t_Ta, rfl, ix_Ta, t_Ta_ok, n_Ta, by decide, (xm 248 (by decide +kernel) (by decide +kernel)), rfl, rfl, fun _ => rfl⟩
theorem fr_Ta_12 : xFr R_Ta 12 6 13 := ⟨R_Ta, F_Ta, 14, t_Ta, rfl, ix_Ta, t_Ta_ok, n_Ta, by decide, (xm 248 (by decide +kernel) (by decide +kernel))⟩
theorem fr_Q_264 : xFr R_Q 264 6 13 := ⟨R_Ta, F_Ta, 14, t_Ta, rfl, ix_Ta, t_Ta_ok, n_Ta, by decide, (xm 249 (by decide +kernel) (by decide +kernel))⟩
theorem fs_No_58 : xFs R_No 58 4 0 (.int) true := ⟨R_No, F_No, 11, t_No, rfl, ix_No, t_No_ok, n_No, by decide, (xm 279 (by decide +kernel) (by decide +kernel)), rfl, rfl, fun _ => rfl⟩
theorem fr_No_58 : xFr R_No 58 4 0 := ⟨R_No, F_No, 11, t_No, rfl, ix_No, t_No_ok, n_No, by decide, (xm 279 (by decide +kernel) (by decide +kernel))⟩
theorem fr_Me_47 : xFr R_Me 47 4 0 := ⟨R_No, F_No, 11, t_No, rfl, ix_No, t_No_ok, n_No, by decide, (xm 280 (by decide +kernel) (by decide +kernel))⟩
theorem fr_Q_316 : xFr R_Q 316 4 0 := ⟨R_No, F_No, 11, t_No, rfl, ix_No, t_No_ok, n_No, by decide, (xm 281 (by decide +kernel) (by decide +kernel))⟩
theorem fs_No_9 : xFs R_No 9 4 1 (.int) false := ⟨R_No, F_No, 11, t_No, rfl, ix_No, t_No_ok, n_No, by decide, (xm 282 (by decide +kernel) (by decide +kernel)), rfl, rfl, fun h => by cases h⟩
theorem fr_No_9 : xFr R_No 9 4 1 := ⟨R_No, F_No, 11, t_No, rfl, ix_No, t_No_ok, n_No, by decide, (xm 282 (by decide +kernel) (by decide +kernel))⟩
theorem fs_Q_52 : xFs R_Q 52 4 1 (.int) false := ⟨R_No, F_No, 11, t_No, rfl, ix_No, t_No_ok, n_No, by decide, (xm 283 (by decide +kernel) (by decide +kernel)), rfl, rfl, fun h => by cases h⟩
theorem fr_Q_52 : xFr R_Q 52 4 1 := ⟨R_No, F_No, 11, t_No, rfl, ix_No, t_No_ok, n_No, by decide, (xm 283 (by decide +kernel) (by decide +kernel))⟩
theorem fs_No_15 : xFs R_No 15 4 2 (.int) false := ⟨R_No, F_No, 11, t_No, rfl, ix_No, t_No_ok, n_No, by decide, (xm 284 (by decide +kernel) (by decide +kernel)), rfl, rfl, fun h => by cases h⟩
theorem fr_No_15 : xFr R_No 15 4 2 := ⟨R_No, F_No, 11, t_No, rfl, ix_No, t_No_ok, n_No, by decide, (xm 284 (by decide +kernel) (by decide +kernel))⟩
theorem fs_Q_201 : xFs R_Q 201 4 2 (.int) false := ⟨R_No, F_No, 11, t_No, rfl, ix_No, t_No_ok, n_No, by decide, (xm 285 (by decide +kernel) (by decide +kernel)), rfl, rfl, fun h => by cases h⟩
theorem fr_Q_201 : xFr R_Q 201 4 2 := ⟨R_No, F_No, 11, t_No, rfl, ix_No, t_No_ok, n_No, by decide, (xm 285 (by decide +kernel) (by decide +kernel))⟩
theorem fs_No_18 : xFs R_No 18 4 3 (.int) false := ⟨R_No, F_No, 11, t_No, rfl, ix_No, t_No_ok, n_No, by decide, (xm 286 (by decide +kernel) (by decide +kernel)), rfl, rfl, fun h => by cases h⟩
theorem fr_No_18 : xFr R_No 18 4 3 := ⟨R_No, F_No, 11, t_No, rfl, ix_No, t_No_ok, n_No, by decide, (xm 286 (by decide +kernel) (by decide +kernel))⟩
theorem fs_Q_207 : xFs R_Q 207 4 3 (.int) false := ⟨R_No, F_No, 11, t_No, rfl, ix_No, t_No_ok, n_No, by decide, (xm 287 (by decide +kernel) (by decide +kernel)), rfl, rfl, fun h => by cases h⟩
theorem fr_Q_207 : xFr R_Q 207 4 3 := ⟨R_No, F_No, 11, t_No, rfl, ix_No, t_No_ok, n_No, by decide, (xm 287 (by decide +kernel) (by decide +kernel))⟩
theorem fs_No_21 : xFs R_No 21 4 4 (.int) false := ⟨R_No, F_No, 11, t_No, rfl, ix_No, t_No_ok, n_No, by decide, (xm 288 (by decide +kernel) (by decide +kernel)), rfl, rfl, fun h => by cases h⟩
theorem fr_No_21 : xFr R_No 21 4 4 := ⟨R_No, F_No, 11, t_No, rfl, ix_No, t_No_ok, n_No, by decide, (xm 288 (by decide +kernel) (by decide +kernel))⟩
theorem fs_Q_213 : xFs R_Q 213 4 4 (.int) false := ⟨R_No, F_No, 11, t_No, rfl, ix_No, t_No_ok, n_No, by decide, (xm 289 (by decide +kernel) (by decide +kernel)), rfl, rfl, fun h => by cases h⟩
theorem fr_Q_213 : xFr R_Q 213 4 4 := ⟨R_No, F_No, 11, t_No, rfl, ix_No, t_No_ok, n_No, by decide, (xm 289 (by decide +kernel) (by decide +kernel))⟩
theorem fs_No_24 : xFs R_No 24 4 5 (.int) false := ⟨R_No, F_No, 11, t_No, rfl, ix_No, t_No_ok, n_No, by decide, (xm 290 (by decide +kernel) (by decide +kernel)), rfl, rfl, fun h => by cases h⟩
theorem fr_No_24 : xFr R_No 24 4 5 := ⟨R_No, F_No, 11, t_No, rfl, ix_No, t_No_ok, n_No, by decide, (xm 290 (by decide +kernel) (by decide +kernel))⟩
theorem fs_Q_204 : xFs R_Q 204 4 5 (.int) false := ⟨R_No, F_No, 11, t_No, rfl, ix_No, t_No_ok, n_No, by decide, (xm 291 (by decide +kernel) (by decide +kernel)), rfl, rfl, fun h => by cases h⟩
theorem fr_Q_204 : xFr R_Q 204 4 5 := ⟨R_No, F_No, 11, t_No, rfl, ix_No, t_No_ok, n_No, by decide, (xm 291 (by decide +kernel) (by decide +kernel))⟩
theorem fs_No_27 : xFs R_No 27 4 6 (.int) false := ⟨R_No, F_No, 11, t_No, rfl, ix_No, t_No_ok, n_No, by decide, (xm 292 (by decide +kernel) (by decide +kernel)), rfl, rfl, fun h => by cases h⟩
theorem fr_No_27 : xFr R_No 27 4 6 := ⟨R_No, F_No, 11, t_No, rfl, ix_No, t_No_ok, n_No, by decide, (xm 292 (by decide +kernel) (by decide +kernel))⟩
theorem fs_Q_292 : xFs R_Q 292 4 6 (.int) false := ⟨R_No, F_No, 11, t_No, rfl, ix_No, t_No_ok, n_No, by decide, (xm 293 (by decide +kernel) (by decide +kernel)), rfl, rfl, fun h => by cases h⟩
theorem fr_Q_292 : xFr R_Q 292 4 6 := ⟨R_No, F_No, 11, t_No, rfl, ix_No, t_No_ok, n_No, by decide, (xm 293 (by decide +kernel) (by decide +kernel))⟩
theorem fs_No_33 : xFs R_No 33 4 7 (.object "QuorumNodes$Copies") true := ⟨R_No, F_No, 11, t_No, rfl, ix_No, t_No_ok, n_No, by decide, (xm 294 (by decide +kernel) (by decide +kernel)), rfl, rfl, fun _ => rfl⟩
theorem fr_No_33 : xFr R_No 33 4 7 := ⟨R_No, F_No, 11, t_No, rfl, ix_No, t_No_ok, n_No, by decide, (xm 294 (by decide +kernel) (by decide +kernel))⟩
theorem fr_Q_146 : xFr R_Q 146 4 7 := ⟨R_No, F_No, 11, t_No, rfl, ix_No, t_No_ok, n_No, by decide, (xm 295 (by decide +kernel) (by decide +kernel))⟩
theorem fs_No_40 : xFs R_No 40 4 8 (.object "QuorumNodes$Sets") true := ⟨R_No, F_No, 11, t_No, rfl, ix_No, t_No_ok, n_No, by decide, (xm 296 (by decide +kernel) (by decide +kernel)), rfl, rfl, fun _ => rfl⟩
theorem fr_No_40 : xFr R_No 40 4 8 := ⟨R_No, F_No, 11, t_No, rfl, ix_No, t_No_ok, n_No, by decide, (xm 296 (by decide +kernel) (by decide +kernel))⟩
theorem fr_Q_55 : xFr R_Q 55 4 8 := ⟨R_No, F_No, 11, t_No, rfl, ix_No, t_No_ok, n_No, by decide, (xm 297 (by decide +kernel) (by decide +kernel))⟩
theorem fr_Me_58 : xFr R_Me 58 4 8 := ⟨R_No, F_No, 11, t_No, rfl, ix_No, t_No_ok, n_No, by decide, (xm 298 (by decide +kernel) (by decide +kernel))⟩
theorem fs_No_47 : xFs R_No 47 4 9 (.object "QuorumNodes$Votes") true := ⟨R_No, F_No, 11, t_No, rfl, ix_No, t_No_ok, n_No, by decide, (xm 299 (by decide +kernel) (by decide +kernel)), rfl, rfl, fun _ => rfl⟩
theorem fr_No_47 : xFr R_No 47 4 9 := ⟨R_No, F_No, 11, t_No, rfl, ix_No, t_No_ok, n_No, by decide, (xm 299 (by decide +kernel) (by decide +kernel))⟩
theorem fr_Q_234 : xFr R_Q 234 4 9 := ⟨R_No, F_No, 11, t_No, rfl, ix_No, t_No_ok, n_No, by decide, (xm 300 (by decide +kernel) (by decide +kernel))⟩
theorem fs_No_54 : xFs R_No 54 4 10 (.object "QuorumNodes$Task") true := ⟨R_No, F_No, 11, t_No, rfl, ix_No, t_No_ok, n_No, by decide, (xm 301 (by decide +kernel) (by decide +kernel)), rfl, rfl, fun _ => rfl⟩
theorem fr_No_54 : xFr R_No 54 4 10 := ⟨R_No, F_No, 11, t_No, rfl, ix_No, t_No_ok, n_No, by decide, (xm 301 (by decide +kernel) (by decide +kernel))⟩
theorem fr_Q_84 : xFr R_Q 84 4 10 := ⟨R_No, F_No, 11, t_No, rfl, ix_No, t_No_ok, n_No, by decide, (xm 302 (by decide +kernel) (by decide +kernel))⟩
theorem lk_Q_59 : xLk R_Q 59 m_Se_put 3 := ⟨cw_Se_put, (xm 326 (by decide +kernel) (by decide +kernel)), by decide +kernel⟩
theorem ln_Se_18 : xLn R_Se 18 "QuorumNodes" m_Q_isIndex 1 := ⟨cw_Q_isIndex, (xmU 330 (by decide +kernel) rfl), by decide +kernel⟩
theorem fs_Q_11 : xFs R_Q 11 0 0 (.array (.object "QuorumNodes$Node")) true := ⟨R_Q, F_Q, 5, t_Q, rfl, ix_Q, t_Q_ok, n_Q, by decide, (xm 333 (by decide +kernel) (by decide +kernel)), rfl, rfl, fun _ => rfl⟩
theorem fr_Q_11 : xFr R_Q 11 0 0 := ⟨R_Q, F_Q, 5, t_Q, rfl, ix_Q, t_Q_ok, n_Q, by decide, (xm 333 (by decide +kernel) (by decide +kernel))⟩
theorem fs_Q_18 : xFs R_Q 18 0 1 (.object "QuorumNodes$Mail") true := ⟨R_Q, F_Q, 5, t_Q, rfl, ix_Q, t_Q_ok, n_Q, by decide, (xm 334 (by decide +kernel) (by decide +kernel)), rfl, rfl, fun _ => rfl⟩
theorem fr_Q_18 : xFr R_Q 18 0 1 := ⟨R_Q, F_Q, 5, t_Q, rfl, ix_Q, t_Q_ok, n_Q, by decide, (xm 334 (by decide +kernel) (by decide +kernel))⟩
theorem fs_Q_25 : xFs R_Q 25 0 2 (.object "QuorumNodes$Message") true := ⟨R_Q, F_Q, 5, t_Q, rfl, ix_Q, t_Q_ok, n_Q, by decide, (xm 335 (by decide +kernel) (by decide +kernel)), rfl, rfl, fun _ => rfl⟩
theorem fr_Q_25 : xFr R_Q 25 0 2 := ⟨R_Q, F_Q, 5, t_Q, rfl, ix_Q, t_Q_ok, n_Q, by decide, (xm 335 (by decide +kernel) (by decide +kernel))⟩
theorem fs_Q_29 : xFs R_Q 29 0 3 (.object "QuorumNodes$Message") true := ⟨R_Q, F_Q, 5, t_Q, rfl, ix_Q, t_Q_ok, n_Q, by decide, (xm 336 (by decide +kernel) (by decide +kernel)), rfl, rfl, fun _ => rfl⟩
theorem fr_Q_29 : xFr R_Q 29 0 3 := ⟨R_Q, F_Q, 5, t_Q, rfl, ix_Q, t_Q_ok, n_Q, by decide, (xm 336 (by decide +kernel) (by decide +kernel))⟩
theorem fs_Q_32 : xFs R_Q 32 0 4 (.int) false := ⟨R_Q, F_Q, 5, t_Q, rfl, ix_Q, t_Q_ok, n_Q, by decide, (xm 337 (by decide +kernel) (by decide +kernel)), rfl, rfl, fun h => by cases h⟩
theorem fr_Q_32 : xFr R_Q 32 0 4 := ⟨R_Q, F_Q, 5, t_Q, rfl, ix_Q, t_Q_ok, n_Q, by decide, (xm 337 (by decide +kernel) (by decide +kernel))⟩
theorem lk_L_21 : xLk R_L 21 m_Q_read 2 := ⟨cw_Q_read, (xm 349 (by decide +kernel) (by decide +kernel)), by decide +kernel⟩
theorem lk_Q_65 : xLk R_Q 65 m_Q_isObject 1 := ⟨cw_Q_isObject, (xm 353 (by decide +kernel) (by decide +kernel)), by decide +kernel⟩
theorem lk_Q_69 : xLk R_Q 69 m_Q_openTask 3 := ⟨cw_Q_openTask, (xm 356 (by decide +kernel) (by decide +kernel)), by decide +kernel⟩
theorem lk_Q_93 : xLk R_Q 93 m_Q_find 1 := ⟨cw_Q_find, (xm 360 (by decide +kernel) (by decide +kernel)), by decide +kernel⟩
theorem lk_Q_129 : xLk R_Q 129 m_No_isUp 0 := ⟨cw_No_isUp, (xm 364 (by decide +kernel) (by decide +kernel)), by decide +kernel⟩
theorem lk_Q_119 : xLk R_Q 119 m_No_isBusy 0 := ⟨cw_No_isBusy, (xm 368 (by decide +kernel) (by decide +kernel)), by decide +kernel⟩
theorem lk_Q_101 : xLk R_Q 101 m_Se_having 1 := ⟨cw_Se_having, (xm 372 (by decide +kernel) (by decide +kernel)), by decide +kernel⟩
theorem lk_Q_302 : xLk R_Q 302 m_Ta_open 3 := ⟨cw_Ta_open, (xm 376 (by decide +kernel) (by decide +kernel)), by decide +kernel⟩
theorem lk_Q_73 : xLk R_Q 73 m_Q_beginFirst 1 := ⟨cw_Q_beginFirst, (xm 380 (by decide +kernel) (by decide +kernel)), by decide +kernel⟩
theorem lk_Q_304 : xLk R_Q 304 m_No_openPhase 1 := ⟨cw_No_openPhase, (xm 384 (by decide +kernel) (by decide +kernel)), by decide +kernel⟩
theorem lk_Q_149 : xLk R_Q 149 m_Co_copyFrom 1 := ⟨cw_Co_copyFrom, (xm 388 (by decide +kernel) (by decide +kernel)), by decide +kernel⟩
theorem ac_Co_25 : xAc R_Co 25 := ⟨(xm 392 (by decide +kernel) (by decide +kernel)), (xm 394 (by decide +kernel) (by decide +kernel)), (xm 393 (by decide +kernel) (by decide +kernel)), (xm 64 (by decide +kernel) (by decide +kernel))⟩
theorem lk_Q_313 : xLk R_Q 313 m_No_raiseRound 1 := ⟨cw_No_raiseRound, (xm 395 (by decide +kernel) (by decide +kernel)), by decide +kernel⟩
theorem lk_No_82 : xLk R_No 82 m_No_mayWrite 0 := ⟨cw_No_mayWrite, (xm 399 (by decide +kernel) (by decide +kernel)), by decide +kernel⟩
theorem lk_No_67 : xLk R_No 67 m_No_fall 0 := ⟨cw_No_fall, (xm 403 (by decide +kernel) (by decide +kernel)), by decide +kernel⟩
theorem mx_No_70 : xMx R_No 70 := ⟨(xm 407 (by decide +kernel) (by decide +kernel)), (xm 184 (by decide +kernel) (by decide +kernel)), (xm 59 (by decide +kernel) (by decide +kernel)), (xm 185 (by decide +kernel) (by decide +kernel))⟩
theorem lk_Q_319 : xLk R_Q 319 m_Q_ask 1 := ⟨cw_Q_ask, (xm 408 (by decide +kernel) (by decide +kernel)), by decide +kernel⟩
theorem lk_Q_329 : xLk R_Q 329 m_Q_concerned 1 := ⟨cw_Q_concerned, (xm 412 (by decide +kernel) (by decide +kernel)), by decide +kernel⟩
theorem lk_Q_332 : xLk R_Q 332 m_Se_membersOfAll 1 := ⟨cw_Se_membersOfAll, (xm 415 (by decide +kernel) (by decide +kernel)), by decide +kernel⟩
theorem ln_Se_22 : xLn R_Se 22 "QuorumNodes" m_Q_isIn 2 := ⟨cw_Q_isIn, (xmU 419 (by decide +kernel) rfl), by decide +kernel⟩
theorem ln_Se_26 : xLn R_Se 26 "QuorumNodes" m_Q_membersOf 1 := ⟨cw_Q_membersOf, (xmU 422 (by decide +kernel) rfl), by decide +kernel⟩
theorem lk_Q_335 : xLk R_Q 335 m_Q_draftRequest 1 := ⟨cw_Q_draftRequest, (xm 425 (by decide +kernel) (by decide +kernel)), by decide +kernel⟩
theorem lk_Q_338 : xLk R_Q 338 m_Q_requestOf 1 := ⟨cw_Q_requestOf, (xm 429 (by decide +kernel) (by decide +kernel)), by decide +kernel⟩
theorem lk_Q_138 : xLk R_Q 138 m_Me_open 3 := ⟨cw_Me_open, (xm 432 (by decide +kernel) (by decide +kernel)), by decide +kernel⟩
theorem lk_Me_44 : xLk R_Me 44 m_Me_clear 0 := ⟨cw_Me_clear, (xm 436 (by decide +kernel) (by decide +kernel)), by decide +kernel⟩
theorem lk_Me_59 : xLk R_Me 59 m_Se_copyFrom 1 := ⟨cw_Se_copyFrom, (xm 440 (by decide +kernel) (by decide +kernel)), by decide +kernel⟩
theorem ac_Se_30 : xAc R_Se 30 := ⟨(xm 444 (by decide +kernel) (by decide +kernel)), (xm 394 (by decide +kernel) (by decide +kernel)), (xm 393 (by decide +kernel) (by decide +kernel)), (xm 64 (by decide +kernel) (by decide +kernel))⟩
theorem lk_Q_298 : xLk R_Q 298 m_Q_isIn 2 := ⟨cw_Q_isIn, (xm 445 (by decide +kernel) (by decide +kernel)), by decide +kernel⟩
theorem lk_Q_183 : xLk R_Q 183 m_Q_serve 2 := ⟨cw_Q_serve, (xm 446 (by decide +kernel) (by decide +kernel)), by decide +kernel⟩
theorem lk_Q_371 : xLk R_Q 371 m_Me_openAnswer 2 := ⟨cw_Me_openAnswer, (xm 450 (by decide +kernel) (by decide +kernel)), by decide +kernel⟩
theorem lk_Q_325 : xLk R_Q 325 m_No_take 2 := ⟨cw_No_take, (xm 454 (by decide +kernel) (by decide +kernel)), by decide +kernel⟩
theorem lk_No_86 : xLk R_No 86 m_No_isUp 0 := ⟨cw_No_isUp, (xm 458 (by decide +kernel) (by decide +kernel)), by decide +kernel⟩
theorem ln_No_89 : xLn R_No 89 "QuorumNodes" m_Q_isIn 2 := ⟨cw_Q_isIn, (xmU 459 (by decide +kernel) rfl), by decide +kernel⟩
theorem lk_No_93 : xLk R_No 93 m_Co_isLess 2 := ⟨cw_Co_isLess, (xm 460 (by decide +kernel) (by decide +kernel)), by decide +kernel⟩
theorem ln_Co_21 : xLn R_Co 21 "QuorumNodes" m_Q_isObject 1 := ⟨cw_Q_isObject, (xmU 464 (by decide +kernel) rfl), by decide +kernel⟩
theorem lk_No_97 : xLk R_No 97 m_Co_putFrom 2 := ⟨cw_Co_putFrom, (xm 465 (by decide +kernel) (by decide +kernel)), by decide +kernel⟩
theorem lk_Q_375 : xLk R_Q 375 m_Q_vote 2 := ⟨cw_Q_vote, (xm 469 (by decide +kernel) (by decide +kernel)), by decide +kernel⟩
theorem lk_Q_238 : xLk R_Q 238 m_Vo_promisedAt 1 := ⟨cw_Vo_promisedAt, (xm 473 (by decide +kernel) (by decide +kernel)), by decide +kernel⟩
theorem ln_Vo_21 : xLn R_Vo 21 "QuorumNodes" m_Q_isIndex 1 := ⟨cw_Q_isIndex, (xmU 477 (by decide +kernel) rfl), by decide +kernel⟩
theorem lk_Q_243 : xLk R_Q 243 m_Vo_acceptedAt 1 := ⟨cw_Vo_acceptedAt, (xm 478 (by decide +kernel) (by decide +kernel)), by decide +kernel⟩
theorem lk_Q_246 : xLk R_Q 246 m_Vo_configurationAt 1 := ⟨cw_Vo_configurationAt, (xm 482 (by decide +kernel) (by decide +kernel)), by decide +kernel⟩
theorem lk_Q_198 : xLk R_Q 198 m_No_mayWrite 0 := ⟨cw_No_mayWrite, (xm 486 (by decide +kernel) (by decide +kernel)), by decide +kernel⟩
theorem lk_Q_378 : xLk R_Q 378 m_Vo_put 4 := ⟨cw_Vo_put, (xm 487 (by decide +kernel) (by decide +kernel)), by decide +kernel⟩
theorem lk_Q_379 : xLk R_Q 379 m_Vo_isAs 4 := ⟨cw_Vo_isAs, (xm 491 (by decide +kernel) (by decide +kernel)), by decide +kernel⟩
theorem lk_Q_179 : xLk R_Q 179 m_Q_hear 2 := ⟨cw_Q_hear, (xm 495 (by decide +kernel) (by decide +kernel)), by decide +kernel⟩
theorem lk_Q_386 : xLk R_Q 386 m_Co_takeGreater 2 := ⟨cw_Co_takeGreater, (xm 498 (by decide +kernel) (by decide +kernel)), by decide +kernel⟩
theorem ln_Co_31 : xLn R_Co 31 "QuorumNodes" m_Q_isIn 2 := ⟨cw_Q_isIn, (xmU 502 (by decide +kernel) rfl), by decide +kernel⟩
theorem lk_Co_35 : xLk R_Co 35 m_Co_isLess 2 := ⟨cw_Co_isLess, (xm 503 (by decide +kernel) (by decide +kernel)), by decide +kernel⟩
theorem lk_Co_39 : xLk R_Co 39 m_Co_putFrom 2 := ⟨cw_Co_putFrom, (xm 504 (by decide +kernel) (by decide +kernel)), by decide +kernel⟩
theorem lk_Q_155 : xLk R_Q 155 m_Ma_send 1 := ⟨cw_Ma_send, (xm 505 (by decide +kernel) (by decide +kernel)), by decide +kernel⟩
theorem lk_Ma_29 : xLk R_Ma 29 m_Me_copyFrom 1 := ⟨cw_Me_copyFrom, (xm 509 (by decide +kernel) (by decide +kernel)), by decide +kernel⟩
theorem lk_Me_63 : xLk R_Me 63 m_Co_copyFrom 1 := ⟨cw_Co_copyFrom, (xm 513 (by decide +kernel) (by decide +kernel)), by decide +kernel⟩
theorem lk_Q_77 : xLk R_Q 77 m_Q_settle 1 := ⟨cw_Q_settle, (xm 514 (by decide +kernel) (by decide +kernel)), by decide +kernel⟩
theorem lk_Q_355 : xLk R_Q 355 m_Q_isEnough 1 := ⟨cw_Q_isEnough, (xm 518 (by decide +kernel) (by decide +kernel)), by decide +kernel⟩
theorem lk_Q_231 : xLk R_Q 231 m_Se_configurationOf 1 := ⟨cw_Se_configurationOf, (xm 521 (by decide +kernel) (by decide +kernel)), by decide +kernel⟩
theorem lk_Q_342 : xLk R_Q 342 m_Q_membersOf 1 := ⟨cw_Q_membersOf, (xm 525 (by decide +kernel) (by decide +kernel)), by decide +kernel⟩
theorem lk_Q_111 : xLk R_Q 111 m_JI_bitCount 1 := ⟨cw_JI_bitCount, (xm 526 (by decide +kernel) (by decide +kernel)), by decide +kernel⟩
theorem cn_JI_265 : Cond.constant R_JI 265 1431655765 ∈ xT := (xm 529 (by decide +kernel) (by decide +kernel))
theorem cn_JI_266 : Cond.constant R_JI 266 858993459 ∈ xT := (xm 530 (by decide +kernel) (by decide +kernel))
theorem cn_JI_267 : Cond.constant R_JI 267 252645135 ∈ xT := (xm 531 (by decide +kernel) (by decide +kernel))
theorem lk_Q_345 : xLk R_Q 345 m_Q_needed 2 := ⟨cw_Q_needed, (xm 532 (by decide +kernel) (by decide +kernel)), by decide +kernel⟩
theorem lk_Q_349 : xLk R_Q 349 m_Q_writersOf 1 := ⟨cw_Q_writersOf, (xm 535 (by decide +kernel) (by decide +kernel)), by decide +kernel⟩
theorem lk_Q_352 : xLk R_Q 352 m_Q_readersOf 1 := ⟨cw_Q_readersOf, (xm 538 (by decide +kernel) (by decide +kernel)), by decide +kernel⟩
theorem lk_Q_359 : xLk R_Q 359 m_Q_beginSecond 1 := ⟨cw_Q_beginSecond, (xm 541 (by decide +kernel) (by decide +kernel)), by decide +kernel⟩
theorem lk_Q_216 : xLk R_Q 216 m_Co_numberOf 1 := ⟨cw_Co_numberOf, (xm 545 (by decide +kernel) (by decide +kernel)), by decide +kernel⟩
theorem lk_Q_322 : xLk R_Q 322 m_Co_put 4 := ⟨cw_Co_put, (xm 549 (by decide +kernel) (by decide +kernel)), by decide +kernel⟩
theorem lk_Q_261 : xLk R_Q 261 m_Ta_isOfObject 0 := ⟨cw_Ta_isOfObject, (xm 553 (by decide +kernel) (by decide +kernel)), by decide +kernel⟩
theorem lk_Q_362 : xLk R_Q 362 m_Q_finish 1 := ⟨cw_Q_finish, (xm 557 (by decide +kernel) (by decide +kernel)), by decide +kernel⟩
theorem lk_Q_365 : xLk R_Q 365 m_No_mark 3 := ⟨cw_No_mark, (xm 560 (by decide +kernel) (by decide +kernel)), by decide +kernel⟩
theorem lk_No_109 : xLk R_No 109 m_Se_put 3 := ⟨cw_Se_put, (xm 564 (by decide +kernel) (by decide +kernel)), by decide +kernel⟩
theorem lk_Q_228 : xLk R_Q 228 m_Se_stateOf 1 := ⟨cw_Se_stateOf, (xm 565 (by decide +kernel) (by decide +kernel)), by decide +kernel⟩
theorem lk_Q_368 : xLk R_Q 368 m_Q_conclude 1 := ⟨cw_Q_conclude, (xm 569 (by decide +kernel) (by decide +kernel)), by decide +kernel⟩
theorem lk_Q_222 : xLk R_Q 222 m_Co_valueOf 1 := ⟨cw_Co_valueOf, (xm 572 (by decide +kernel) (by decide +kernel)), by decide +kernel⟩
theorem lk_Q_80 : xLk R_Q 80 m_Q_started 1 := ⟨cw_Q_started, (xm 576 (by decide +kernel) (by decide +kernel)), by decide +kernel⟩
theorem lk_L_26 : xLk R_L 26 m_Q_write 3 := ⟨cw_Q_write, (xm 579 (by decide +kernel) (by decide +kernel)), by decide +kernel⟩
theorem lk_L_31 : xLk R_L 31 m_Q_propose 4 := ⟨cw_Q_propose, (xm 583 (by decide +kernel) (by decide +kernel)), by decide +kernel⟩
theorem lk_Q_97 : xLk R_Q 97 m_Q_isConfiguration 3 := ⟨cw_Q_isConfiguration, (xm 587 (by decide +kernel) (by decide +kernel)), by decide +kernel⟩
theorem lk_Q_105 : xLk R_Q 105 m_Q_greatest 1 := ⟨cw_Q_greatest, (xm 590 (by decide +kernel) (by decide +kernel)), by decide +kernel⟩
theorem lk_L_36 : xLk R_L 36 m_Q_retire 1 := ⟨cw_Q_retire, (xm 593 (by decide +kernel) (by decide +kernel)), by decide +kernel⟩
theorem lk_L_41 : xLk R_L 41 m_Q_again 1 := ⟨cw_Q_again, (xm 597 (by decide +kernel) (by decide +kernel)), by decide +kernel⟩
theorem lk_Q_126 : xLk R_Q 126 m_Q_askAgain 1 := ⟨cw_Q_askAgain, (xm 601 (by decide +kernel) (by decide +kernel)), by decide +kernel⟩
theorem lk_L_45 : xLk R_L 45 m_Q_gossip 2 := ⟨cw_Q_gossip, (xm 605 (by decide +kernel) (by decide +kernel)), by decide +kernel⟩
theorem lk_L_50 : xLk R_L 50 m_Q_join 2 := ⟨cw_Q_join, (xm 609 (by decide +kernel) (by decide +kernel)), by decide +kernel⟩
theorem lk_L_54 : xLk R_L 54 m_Q_deliver 1 := ⟨cw_Q_deliver, (xm 613 (by decide +kernel) (by decide +kernel)), by decide +kernel⟩
theorem lk_Q_159 : xLk R_Q 159 m_Ma_takeOut 1 := ⟨cw_Ma_takeOut, (xm 617 (by decide +kernel) (by decide +kernel)), by decide +kernel⟩
theorem lk_Ma_33 : xLk R_Ma 33 m_Ma_row 1 := ⟨cw_Ma_row, (xm 621 (by decide +kernel) (by decide +kernel)), by decide +kernel⟩
theorem lk_Q_167 : xLk R_Q 167 m_No_merge 1 := ⟨cw_No_merge, (xm 625 (by decide +kernel) (by decide +kernel)), by decide +kernel⟩
theorem lk_No_101 : xLk R_No 101 m_Se_isBehind 1 := ⟨cw_Se_isBehind, (xm 629 (by decide +kernel) (by decide +kernel)), by decide +kernel⟩
theorem lk_No_105 : xLk R_No 105 m_Se_takeGreater 1 := ⟨cw_Se_takeGreater, (xm 633 (by decide +kernel) (by decide +kernel)), by decide +kernel⟩
theorem lk_Q_171 : xLk R_Q 171 m_Q_look 2 := ⟨cw_Q_look, (xm 637 (by decide +kernel) (by decide +kernel)), by decide +kernel⟩
theorem lk_Q_176 : xLk R_Q 176 m_Q_isAnswer 1 := ⟨cw_Q_isAnswer, (xm 641 (by decide +kernel) (by decide +kernel)), by decide +kernel⟩
theorem lk_Q_186 : xLk R_Q 186 m_Q_sendReply 1 := ⟨cw_Q_sendReply, (xm 644 (by decide +kernel) (by decide +kernel)), by decide +kernel⟩
theorem lk_Q_383 : xLk R_Q 383 m_Se_copyFrom 1 := ⟨cw_Se_copyFrom, (xm 648 (by decide +kernel) (by decide +kernel)), by decide +kernel⟩
theorem lk_L_58 : xLk R_L 58 m_Q_lose 1 := ⟨cw_Q_lose, (xm 649 (by decide +kernel) (by decide +kernel)), by decide +kernel⟩
theorem lk_L_63 : xLk R_L 63 m_Q_twice 1 := ⟨cw_Q_twice, (xm 653 (by decide +kernel) (by decide +kernel)), by decide +kernel⟩
theorem lk_Q_189 : xLk R_Q 189 m_Ma_row 1 := ⟨cw_Ma_row, (xm 657 (by decide +kernel) (by decide +kernel)), by decide +kernel⟩
theorem lk_L_67 : xLk R_L 67 m_Q_crash 1 := ⟨cw_Q_crash, (xm 658 (by decide +kernel) (by decide +kernel)), by decide +kernel⟩
theorem lk_Q_195 : xLk R_Q 195 m_No_fall 0 := ⟨cw_No_fall, (xm 662 (by decide +kernel) (by decide +kernel)), by decide +kernel⟩
theorem lk_L_71 : xLk R_L 71 m_Q_restart 1 := ⟨cw_Q_restart, (xm 663 (by decide +kernel) (by decide +kernel)), by decide +kernel⟩
theorem lk_L_75 : xLk R_L 75 m_Q_arm 2 := ⟨cw_Q_arm, (xm 667 (by decide +kernel) (by decide +kernel)), by decide +kernel⟩
theorem lk_L_79 : xLk R_L 79 m_Q_node 2 := ⟨cw_Q_node, (xm 671 (by decide +kernel) (by decide +kernel)), by decide +kernel⟩
theorem lk_Q_210 : xLk R_Q 210 m_Q_least 1 := ⟨cw_Q_least, (xm 675 (by decide +kernel) (by decide +kernel)), by decide +kernel⟩
theorem lk_L_83 : xLk R_L 83 m_Q_cell 3 := ⟨cw_Q_cell, (xm 678 (by decide +kernel) (by decide +kernel)), by decide +kernel⟩
theorem lk_Q_219 : xLk R_Q 219 m_Co_writerOf 1 := ⟨cw_Co_writerOf, (xm 682 (by decide +kernel) (by decide +kernel)), by decide +kernel⟩
theorem lk_L_86 : xLk R_L 86 m_Q_map 3 := ⟨cw_Q_map, (xm 686 (by decide +kernel) (by decide +kernel)), by decide +kernel⟩
theorem lk_Q_225 : xLk R_Q 225 m_Q_isIndex 1 := ⟨cw_Q_isIndex, (xm 690 (by decide +kernel) (by decide +kernel)), by decide +kernel⟩
theorem lk_L_90 : xLk R_L 90 m_Q_task 2 := ⟨cw_Q_task, (xm 691 (by decide +kernel) (by decide +kernel)), by decide +kernel⟩
theorem lk_L_94 : xLk R_L 94 m_Q_message 2 := ⟨cw_Q_message, (xm 695 (by decide +kernel) (by decide +kernel)), by decide +kernel⟩
theorem lk_Q_276 : xLk R_Q 276 m_Me_hasTag 0 := ⟨cw_Me_hasTag, (xm 699 (by decide +kernel) (by decide +kernel)), by decide +kernel⟩
theorem lk_L_98 : xLk R_L 98 m_Q_count 1 := ⟨cw_Q_count, (xm 703 (by decide +kernel) (by decide +kernel)), by decide +kernel⟩
theorem lk_Q_282 : xLk R_Q 282 m_Q_writesOfAll 0 := ⟨cw_Q_writesOfAll, (xm 707 (by decide +kernel) (by decide +kernel)), by decide +kernel⟩
theorem lk_Q_286 : xLk R_Q 286 m_Q_nodesUp 0 := ⟨cw_Q_nodesUp, (xm 711 (by decide +kernel) (by decide +kernel)), by decide +kernel⟩
theorem lk_L_9 : xLk R_L 9 m_L_cell 2 := ⟨cw_L_cell, (xm 715 (by decide +kernel) (by decide +kernel)), by decide +kernel⟩
theorem ns_L_18 : xNs R_L 18 8 36 [.int 0, .null, .null, .null, .null, .null, .null, .null, .null, .null, .null, .null, .null, .null, .int 0, .null, .null, .null, .null, .null, .null, .null, .null, .null, .null, .null, .null, .null, .null, .null, .null, .int 0, .null, .int 0, .int 0, .null] := ⟨R_M, F_M, t_M, rfl, ix_M, t_M_ok, (xm 718 (by decide +kernel) (by decide +kernel)), (xm 719 (by decide +kernel) (by decide +kernel)), (xm 63 (by decide +kernel) (by decide +kernel)), fun j hj b base => by
  have hj : j < 36 := hj
  match j, hj with
  | 0, _ => rfl
  | 1, _ => rfl
  | 2, _ => rfl
  | 3, _ => rfl
  | 4, _ => rfl
  | 5, _ => rfl
  | 6, _ => rfl
  | 7, _ => rfl
  | 8, _ => rfl
  | 9, _ => rfl
  | 10, _ => rfl
  | 11, _ => rfl
  | 12, _ => rfl
  | 13, _ => rfl
  | 14, _ => rfl
  | 15, _ => rfl
  | 16, _ => rfl
  | 17, _ => rfl
  | 18, _ => rfl
  | 19, _ => rfl
  | 20, _ => rfl
  | 21, _ => rfl
  | 22, _ => rfl
  | 23, _ => rfl
  | 24, _ => rfl
  | 25, _ => rfl
  | 26, _ => rfl
  | 27, _ => rfl
  | 28, _ => rfl
  | 29, _ => rfl
  | 30, _ => rfl
  | 31, _ => rfl
  | 32, _ => rfl
  | 33, _ => rfl
  | 34, _ => rfl
  | 35, _ => rfl
  | n + 36, h => omega⟩
theorem cl_L_18 : Cond.classLink R_L 18 "QuorumNodesModel" ∈ xT := (xm 718 (by decide +kernel) (by decide +kernel))
theorem lk_L_20 : xLk R_L 20 m_M_init 3 := ⟨cw_M_init, (xm 720 (by decide +kernel) (by decide +kernel)), by decide +kernel⟩
theorem oi_M_1 : xOi R_M 1 := ⟨(xm 723 (by decide +kernel) (by decide +kernel)), (xm 72 (by decide +kernel) (by decide +kernel)), (xm 73 (by decide +kernel) (by decide +kernel))⟩
theorem fs_M_103 : xFs R_M 103 8 0 (.int) false := ⟨R_M, F_M, 36, t_M, rfl, ix_M, t_M_ok, n_M, by decide, (xm 724 (by decide +kernel) (by decide +kernel)), rfl, rfl, fun h => by cases h⟩
theorem fr_M_103 : xFr R_M 103 8 0 := ⟨R_M, F_M, 36, t_M, rfl, ix_M, t_M_ok, n_M, by decide, (xm 724 (by decide +kernel) (by decide +kernel))⟩
theorem fs_M_9 : xFs R_M 9 8 1 (.array .int) true := ⟨R_M, F_M, 36, t_M, rfl, ix_M, t_M_ok, n_M, by decide, (xm 725 (by decide +kernel) (by decide +kernel)), rfl, rfl, fun _ => rfl⟩
theorem fr_M_9 : xFr R_M 9 8 1 := ⟨R_M, F_M, 36, t_M, rfl, ix_M, t_M_ok, n_M, by decide, (xm 725 (by decide +kernel) (by decide +kernel))⟩
theorem fs_M_13 : xFs R_M 13 8 2 (.array .int) true := ⟨R_M, F_M, 36, t_M, rfl, ix_M, t_M_ok, n_M, by decide, (xm 726 (by decide +kernel) (by decide +kernel)), rfl, rfl, fun _ => rfl⟩
theorem fr_M_13 : xFr R_M 13 8 2 := ⟨R_M, F_M, 36, t_M, rfl, ix_M, t_M_ok, n_M, by decide, (xm 726 (by decide +kernel) (by decide +kernel))⟩
theorem fs_M_16 : xFs R_M 16 8 3 (.array .int) true := ⟨R_M, F_M, 36, t_M, rfl, ix_M, t_M_ok, n_M, by decide, (xm 727 (by decide +kernel) (by decide +kernel)), rfl, rfl, fun _ => rfl⟩
theorem fr_M_16 : xFr R_M 16 8 3 := ⟨R_M, F_M, 36, t_M, rfl, ix_M, t_M_ok, n_M, by decide, (xm 727 (by decide +kernel) (by decide +kernel))⟩
theorem fs_M_19 : xFs R_M 19 8 4 (.array .int) true := ⟨R_M, F_M, 36, t_M, rfl, ix_M, t_M_ok, n_M, by decide, (xm 728 (by decide +kernel) (by decide +kernel)), rfl, rfl, fun _ => rfl⟩
theorem fr_M_19 : xFr R_M 19 8 4 := ⟨R_M, F_M, 36, t_M, rfl, ix_M, t_M_ok, n_M, by decide, (xm 728 (by decide +kernel) (by decide +kernel))⟩
theorem fs_M_22 : xFs R_M 22 8 5 (.array .int) true := ⟨R_M, F_M, 36, t_M, rfl, ix_M, t_M_ok, n_M, by decide, (xm 729 (by decide +kernel) (by decide +kernel)), rfl, rfl, fun _ => rfl⟩
theorem fr_M_22 : xFr R_M 22 8 5 := ⟨R_M, F_M, 36, t_M, rfl, ix_M, t_M_ok, n_M, by decide, (xm 729 (by decide +kernel) (by decide +kernel))⟩
theorem fs_M_25 : xFs R_M 25 8 6 (.array .int) true := ⟨R_M, F_M, 36, t_M, rfl, ix_M, t_M_ok, n_M, by decide, (xm 730 (by decide +kernel) (by decide +kernel)), rfl, rfl, fun _ => rfl⟩
theorem fr_M_25 : xFr R_M 25 8 6 := ⟨R_M, F_M, 36, t_M, rfl, ix_M, t_M_ok, n_M, by decide, (xm 730 (by decide +kernel) (by decide +kernel))⟩
theorem fs_M_28 : xFs R_M 28 8 7 (.array .int) true := ⟨R_M, F_M, 36, t_M, rfl, ix_M, t_M_ok, n_M, by decide, (xm 731 (by decide +kernel) (by decide +kernel)), rfl, rfl, fun _ => rfl⟩
theorem fr_M_28 : xFr R_M 28 8 7 := ⟨R_M, F_M, 36, t_M, rfl, ix_M, t_M_ok, n_M, by decide, (xm 731 (by decide +kernel) (by decide +kernel))⟩
theorem fs_M_31 : xFs R_M 31 8 8 (.array .int) true := ⟨R_M, F_M, 36, t_M, rfl, ix_M, t_M_ok, n_M, by decide, (xm 732 (by decide +kernel) (by decide +kernel)), rfl, rfl, fun _ => rfl⟩
theorem fr_M_31 : xFr R_M 31 8 8 := ⟨R_M, F_M, 36, t_M, rfl, ix_M, t_M_ok, n_M, by decide, (xm 732 (by decide +kernel) (by decide +kernel))⟩
theorem fs_M_34 : xFs R_M 34 8 9 (.array .int) true := ⟨R_M, F_M, 36, t_M, rfl, ix_M, t_M_ok, n_M, by decide, (xm 733 (by decide +kernel) (by decide +kernel)), rfl, rfl, fun _ => rfl⟩
theorem fr_M_34 : xFr R_M 34 8 9 := ⟨R_M, F_M, 36, t_M, rfl, ix_M, t_M_ok, n_M, by decide, (xm 733 (by decide +kernel) (by decide +kernel))⟩
theorem fs_M_37 : xFs R_M 37 8 10 (.array .int) true := ⟨R_M, F_M, 36, t_M, rfl, ix_M, t_M_ok, n_M, by decide, (xm 734 (by decide +kernel) (by decide +kernel)), rfl, rfl, fun _ => rfl⟩
theorem fr_M_37 : xFr R_M 37 8 10 := ⟨R_M, F_M, 36, t_M, rfl, ix_M, t_M_ok, n_M, by decide, (xm 734 (by decide +kernel) (by decide +kernel))⟩
theorem fs_M_40 : xFs R_M 40 8 11 (.array .int) true := ⟨R_M, F_M, 36, t_M, rfl, ix_M, t_M_ok, n_M, by decide, (xm 735 (by decide +kernel) (by decide +kernel)), rfl, rfl, fun _ => rfl⟩
theorem fr_M_40 : xFr R_M 40 8 11 := ⟨R_M, F_M, 36, t_M, rfl, ix_M, t_M_ok, n_M, by decide, (xm 735 (by decide +kernel) (by decide +kernel))⟩
theorem fs_M_43 : xFs R_M 43 8 12 (.array .int) true := ⟨R_M, F_M, 36, t_M, rfl, ix_M, t_M_ok, n_M, by decide, (xm 736 (by decide +kernel) (by decide +kernel)), rfl, rfl, fun _ => rfl⟩
theorem fr_M_43 : xFr R_M 43 8 12 := ⟨R_M, F_M, 36, t_M, rfl, ix_M, t_M_ok, n_M, by decide, (xm 736 (by decide +kernel) (by decide +kernel))⟩
theorem fs_M_46 : xFs R_M 46 8 13 (.array .int) true := ⟨R_M, F_M, 36, t_M, rfl, ix_M, t_M_ok, n_M, by decide, (xm 737 (by decide +kernel) (by decide +kernel)), rfl, rfl, fun _ => rfl⟩
theorem fr_M_46 : xFr R_M 46 8 13 := ⟨R_M, F_M, 36, t_M, rfl, ix_M, t_M_ok, n_M, by decide, (xm 737 (by decide +kernel) (by decide +kernel))⟩
theorem fs_M_248 : xFs R_M 248 8 14 (.int) false := ⟨R_M, F_M, 36, t_M, rfl, ix_M, t_M_ok, n_M, by decide, (xm 738 (by decide +kernel) (by decide +kernel)), rfl, rfl, fun h => by cases h⟩
theorem fr_M_248 : xFr R_M 248 8 14 := ⟨R_M, F_M, 36, t_M, rfl, ix_M, t_M_ok, n_M, by decide, (xm 738 (by decide +kernel) (by decide +kernel))⟩
theorem fs_M_49 : xFs R_M 49 8 15 (.array .int) true := ⟨R_M, F_M, 36, t_M, rfl, ix_M, t_M_ok, n_M, by decide, (xm 739 (by decide +kernel) (by decide +kernel)), rfl, rfl, fun _ => rfl⟩
theorem fr_M_49 : xFr R_M 49 8 15 := ⟨R_M, F_M, 36, t_M, rfl, ix_M, t_M_ok, n_M, by decide, (xm 739 (by decide +kernel) (by decide +kernel))⟩
theorem fs_M_52 : xFs R_M 52 8 16 (.array .int) true := ⟨R_M, F_M, 36, t_M, rfl, ix_M, t_M_ok, n_M, by decide, (xm 740 (by decide +kernel) (by decide +kernel)), rfl, rfl, fun _ => rfl⟩
theorem fr_M_52 : xFr R_M 52 8 16 := ⟨R_M, F_M, 36, t_M, rfl, ix_M, t_M_ok, n_M, by decide, (xm 740 (by decide +kernel) (by decide +kernel))⟩
theorem fs_M_55 : xFs R_M 55 8 17 (.array .int) true := ⟨R_M, F_M, 36, t_M, rfl, ix_M, t_M_ok, n_M, by decide, (xm 741 (by decide +kernel) (by decide +kernel)), rfl, rfl, fun _ => rfl⟩
theorem fr_M_55 : xFr R_M 55 8 17 := ⟨R_M, F_M, 36, t_M, rfl, ix_M, t_M_ok, n_M, by decide, (xm 741 (by decide +kernel) (by decide +kernel))⟩
theorem fs_M_58 : xFs R_M 58 8 18 (.array .int) true := ⟨R_M, F_M, 36, t_M, rfl, ix_M, t_M_ok, n_M, by decide, (xm 742 (by decide +kernel) (by decide +kernel)), rfl, rfl, fun _ => rfl⟩
theorem fr_M_58 : xFr R_M 58 8 18 := ⟨R_M, F_M, 36, t_M, rfl, ix_M, t_M_ok, n_M, by decide, (xm 742 (by decide +kernel) (by decide +kernel))⟩
theorem fs_M_61 : xFs R_M 61 8 19 (.array .int) true := ⟨R_M, F_M, 36, t_M, rfl, ix_M, t_M_ok, n_M, by decide, (xm 743 (by decide +kernel) (by decide +kernel)), rfl, rfl, fun _ => rfl⟩
theorem fr_M_61 : xFr R_M 61 8 19 := ⟨R_M, F_M, 36, t_M, rfl, ix_M, t_M_ok, n_M, by decide, (xm 743 (by decide +kernel) (by decide +kernel))⟩
theorem fs_M_64 : xFs R_M 64 8 20 (.array .int) true := ⟨R_M, F_M, 36, t_M, rfl, ix_M, t_M_ok, n_M, by decide, (xm 744 (by decide +kernel) (by decide +kernel)), rfl, rfl, fun _ => rfl⟩
theorem fr_M_64 : xFr R_M 64 8 20 := ⟨R_M, F_M, 36, t_M, rfl, ix_M, t_M_ok, n_M, by decide, (xm 744 (by decide +kernel) (by decide +kernel))⟩
theorem fs_M_67 : xFs R_M 67 8 21 (.array .int) true := ⟨R_M, F_M, 36, t_M, rfl, ix_M, t_M_ok, n_M, by decide, (xm 745 (by decide +kernel) (by decide +kernel)), rfl, rfl, fun _ => rfl⟩
theorem fr_M_67 : xFr R_M 67 8 21 := ⟨R_M, F_M, 36, t_M, rfl, ix_M, t_M_ok, n_M, by decide, (xm 745 (by decide +kernel) (by decide +kernel))⟩
theorem fs_M_70 : xFs R_M 70 8 22 (.array .int) true := ⟨R_M, F_M, 36, t_M, rfl, ix_M, t_M_ok, n_M, by decide, (xm 746 (by decide +kernel) (by decide +kernel)), rfl, rfl, fun _ => rfl⟩
theorem fr_M_70 : xFr R_M 70 8 22 := ⟨R_M, F_M, 36, t_M, rfl, ix_M, t_M_ok, n_M, by decide, (xm 746 (by decide +kernel) (by decide +kernel))⟩
theorem fs_M_73 : xFs R_M 73 8 23 (.array .int) true := ⟨R_M, F_M, 36, t_M, rfl, ix_M, t_M_ok, n_M, by decide, (xm 747 (by decide +kernel) (by decide +kernel)), rfl, rfl, fun _ => rfl⟩
theorem fr_M_73 : xFr R_M 73 8 23 := ⟨R_M, F_M, 36, t_M, rfl, ix_M, t_M_ok, n_M, by decide, (xm 747 (by decide +kernel) (by decide +kernel))⟩
theorem fs_M_76 : xFs R_M 76 8 24 (.array .int) true := ⟨R_M, F_M, 36, t_M, rfl, ix_M, t_M_ok, n_M, by decide, (xm 748 (by decide +kernel) (by decide +kernel)), rfl, rfl, fun _ => rfl⟩
theorem fr_M_76 : xFr R_M 76 8 24 := ⟨R_M, F_M, 36, t_M, rfl, ix_M, t_M_ok, n_M, by decide, (xm 748 (by decide +kernel) (by decide +kernel))⟩
theorem fs_M_79 : xFs R_M 79 8 25 (.array .int) true := ⟨R_M, F_M, 36, t_M, rfl, ix_M, t_M_ok, n_M, by decide, (xm 749 (by decide +kernel) (by decide +kernel)), rfl, rfl, fun _ => rfl⟩
theorem fr_M_79 : xFr R_M 79 8 25 := ⟨R_M, F_M, 36, t_M, rfl, ix_M, t_M_ok, n_M, by decide, (xm 749 (by decide +kernel) (by decide +kernel))⟩
theorem fs_M_82 : xFs R_M 82 8 26 (.array .int) true := ⟨R_M, F_M, 36, t_M, rfl, ix_M, t_M_ok, n_M, by decide, (xm 750 (by decide +kernel) (by decide +kernel)), rfl, rfl, fun _ => rfl⟩
theorem fr_M_82 : xFr R_M 82 8 26 := ⟨R_M, F_M, 36, t_M, rfl, ix_M, t_M_ok, n_M, by decide, (xm 750 (by decide +kernel) (by decide +kernel))⟩
theorem fs_M_85 : xFs R_M 85 8 27 (.array .int) true := ⟨R_M, F_M, 36, t_M, rfl, ix_M, t_M_ok, n_M, by decide, (xm 751 (by decide +kernel) (by decide +kernel)), rfl, rfl, fun _ => rfl⟩
theorem fr_M_85 : xFr R_M 85 8 27 := ⟨R_M, F_M, 36, t_M, rfl, ix_M, t_M_ok, n_M, by decide, (xm 751 (by decide +kernel) (by decide +kernel))⟩
theorem fs_M_88 : xFs R_M 88 8 28 (.array .int) true := ⟨R_M, F_M, 36, t_M, rfl, ix_M, t_M_ok, n_M, by decide, (xm 752 (by decide +kernel) (by decide +kernel)), rfl, rfl, fun _ => rfl⟩
theorem fr_M_88 : xFr R_M 88 8 28 := ⟨R_M, F_M, 36, t_M, rfl, ix_M, t_M_ok, n_M, by decide, (xm 752 (by decide +kernel) (by decide +kernel))⟩
theorem fs_M_91 : xFs R_M 91 8 29 (.array .int) true := ⟨R_M, F_M, 36, t_M, rfl, ix_M, t_M_ok, n_M, by decide, (xm 753 (by decide +kernel) (by decide +kernel)), rfl, rfl, fun _ => rfl⟩
theorem fr_M_91 : xFr R_M 91 8 29 := ⟨R_M, F_M, 36, t_M, rfl, ix_M, t_M_ok, n_M, by decide, (xm 753 (by decide +kernel) (by decide +kernel))⟩
theorem fs_M_94 : xFs R_M 94 8 30 (.array .int) true := ⟨R_M, F_M, 36, t_M, rfl, ix_M, t_M_ok, n_M, by decide, (xm 754 (by decide +kernel) (by decide +kernel)), rfl, rfl, fun _ => rfl⟩
theorem fr_M_94 : xFr R_M 94 8 30 := ⟨R_M, F_M, 36, t_M, rfl, ix_M, t_M_ok, n_M, by decide, (xm 754 (by decide +kernel) (by decide +kernel))⟩
theorem fs_M_129 : xFs R_M 129 8 31 (.int) false := ⟨R_M, F_M, 36, t_M, rfl, ix_M, t_M_ok, n_M, by decide, (xm 755 (by decide +kernel) (by decide +kernel)), rfl, rfl, fun h => by cases h⟩
theorem fr_M_129 : xFr R_M 129 8 31 := ⟨R_M, F_M, 36, t_M, rfl, ix_M, t_M_ok, n_M, by decide, (xm 755 (by decide +kernel) (by decide +kernel))⟩
theorem fs_M_97 : xFs R_M 97 8 32 (.array .int) true := ⟨R_M, F_M, 36, t_M, rfl, ix_M, t_M_ok, n_M, by decide, (xm 756 (by decide +kernel) (by decide +kernel)), rfl, rfl, fun _ => rfl⟩
theorem fr_M_97 : xFr R_M 97 8 32 := ⟨R_M, F_M, 36, t_M, rfl, ix_M, t_M_ok, n_M, by decide, (xm 756 (by decide +kernel) (by decide +kernel))⟩
theorem fs_M_132 : xFs R_M 132 8 33 (.int) false := ⟨R_M, F_M, 36, t_M, rfl, ix_M, t_M_ok, n_M, by decide, (xm 757 (by decide +kernel) (by decide +kernel)), rfl, rfl, fun h => by cases h⟩
theorem fr_M_132 : xFr R_M 132 8 33 := ⟨R_M, F_M, 36, t_M, rfl, ix_M, t_M_ok, n_M, by decide, (xm 757 (by decide +kernel) (by decide +kernel))⟩
theorem fs_M_119 : xFs R_M 119 8 34 (.int) false := ⟨R_M, F_M, 36, t_M, rfl, ix_M, t_M_ok, n_M, by decide, (xm 758 (by decide +kernel) (by decide +kernel)), rfl, rfl, fun h => by cases h⟩
theorem fr_M_119 : xFr R_M 119 8 34 := ⟨R_M, F_M, 36, t_M, rfl, ix_M, t_M_ok, n_M, by decide, (xm 758 (by decide +kernel) (by decide +kernel))⟩
theorem fs_M_100 : xFs R_M 100 8 35 (.array .int) true := ⟨R_M, F_M, 36, t_M, rfl, ix_M, t_M_ok, n_M, by decide, (xm 759 (by decide +kernel) (by decide +kernel)), rfl, rfl, fun _ => rfl⟩
theorem fr_M_100 : xFr R_M 100 8 35 := ⟨R_M, F_M, 36, t_M, rfl, ix_M, t_M_ok, n_M, by decide, (xm 759 (by decide +kernel) (by decide +kernel))⟩
theorem lk_L_25 : xLk R_L 25 m_M_read 2 := ⟨cw_M_read, (xm 833 (by decide +kernel) (by decide +kernel)), by decide +kernel⟩
theorem lk_M_251 : xLk R_M 251 m_M_isFree 1 := ⟨cw_M_isFree, (xm 837 (by decide +kernel) (by decide +kernel)), by decide +kernel⟩
theorem lk_M_245 : xLk R_M 245 m_M_isNode 1 := ⟨cw_M_isNode, (xm 841 (by decide +kernel) (by decide +kernel)), by decide +kernel⟩
theorem lk_M_107 : xLk R_M 107 m_M_in 3 := ⟨cw_M_in, (xm 844 (by decide +kernel) (by decide +kernel)), by decide +kernel⟩
theorem lk_M_111 : xLk R_M 111 m_M_isUp 1 := ⟨cw_M_isUp, (xm 847 (by decide +kernel) (by decide +kernel)), by decide +kernel⟩
theorem lk_M_233 : xLk R_M 233 m_M_greatest 1 := ⟨cw_M_greatest, (xm 851 (by decide +kernel) (by decide +kernel)), by decide +kernel⟩
theorem lk_M_254 : xLk R_M 254 m_M_starts 4 := ⟨cw_M_starts, (xm 855 (by decide +kernel) (by decide +kernel)), by decide +kernel⟩
theorem lk_M_203 : xLk R_M 203 m_M_begins 2 := ⟨cw_M_begins, (xm 859 (by decide +kernel) (by decide +kernel)), by decide +kernel⟩
theorem lk_M_176 : xLk R_M 176 m_M_bestIsOwn 1 := ⟨cw_M_bestIsOwn, (xm 863 (by decide +kernel) (by decide +kernel)), by decide +kernel⟩
theorem lk_M_164 : xLk R_M 164 m_M_writeRound 2 := ⟨cw_M_writeRound, (xm 867 (by decide +kernel) (by decide +kernel)), by decide +kernel⟩
theorem lk_M_122 : xLk R_M 122 m_M_mayWrite 1 := ⟨cw_M_mayWrite, (xm 871 (by decide +kernel) (by decide +kernel)), by decide +kernel⟩
theorem lk_M_115 : xLk R_M 115 m_M_goesDown 1 := ⟨cw_M_goesDown, (xm 875 (by decide +kernel) (by decide +kernel)), by decide +kernel⟩
theorem lk_M_179 : xLk R_M 179 m_M_wantedSet 1 := ⟨cw_M_wantedSet, (xm 879 (by decide +kernel) (by decide +kernel)), by decide +kernel⟩
theorem lk_M_135 : xLk R_M 135 m_M_isData 1 := ⟨cw_M_isData, (xm 883 (by decide +kernel) (by decide +kernel)), by decide +kernel⟩
theorem lk_M_173 : xLk R_M 173 m_M_allActive 1 := ⟨cw_M_allActive, (xm 887 (by decide +kernel) (by decide +kernel)), by decide +kernel⟩
theorem lk_M_182 : xLk R_M 182 m_M_ask 2 := ⟨cw_M_ask, (xm 891 (by decide +kernel) (by decide +kernel)), by decide +kernel⟩
theorem lk_M_167 : xLk R_M 167 m_M_does 1 := ⟨cw_M_does, (xm 895 (by decide +kernel) (by decide +kernel)), by decide +kernel⟩
theorem lk_M_146 : xLk R_M 146 m_M_best 5 := ⟨cw_M_best, (xm 899 (by decide +kernel) (by decide +kernel)), by decide +kernel⟩
theorem lk_M_125 : xLk R_M 125 m_M_isGreater 4 := ⟨cw_M_isGreater, (xm 903 (by decide +kernel) (by decide +kernel)), by decide +kernel⟩
theorem lk_M_150 : xLk R_M 150 m_M_store 5 := ⟨cw_M_store, (xm 906 (by decide +kernel) (by decide +kernel)), by decide +kernel⟩
theorem lk_M_153 : xLk R_M 153 m_M_writeVote 5 := ⟨cw_M_writeVote, (xm 910 (by decide +kernel) (by decide +kernel)), by decide +kernel⟩
theorem lk_M_156 : xLk R_M 156 m_M_top 3 := ⟨cw_M_top, (xm 914 (by decide +kernel) (by decide +kernel)), by decide +kernel⟩
theorem lk_M_142 : xLk R_M 142 m_M_chosen 1 := ⟨cw_M_chosen, (xm 918 (by decide +kernel) (by decide +kernel)), by decide +kernel⟩
theorem lk_M_160 : xLk R_M 160 m_M_refused 2 := ⟨cw_M_refused, (xm 922 (by decide +kernel) (by decide +kernel)), by decide +kernel⟩
theorem lk_M_170 : xLk R_M 170 m_M_request 2 := ⟨cw_M_request, (xm 926 (by decide +kernel) (by decide +kernel)), by decide +kernel⟩
theorem lk_M_138 : xLk R_M 138 m_M_send 11 := ⟨cw_M_send, (xm 930 (by decide +kernel) (by decide +kernel)), by decide +kernel⟩
theorem lk_M_216 : xLk R_M 216 m_M_goesOn 1 := ⟨cw_M_goesOn, (xm 934 (by decide +kernel) (by decide +kernel)), by decide +kernel⟩
theorem lk_M_194 : xLk R_M 194 m_M_isEnough 1 := ⟨cw_M_isEnough, (xm 938 (by decide +kernel) (by decide +kernel)), by decide +kernel⟩
theorem lk_M_185 : xLk R_M 185 m_M_many 1 := ⟨cw_M_many, (xm 942 (by decide +kernel) (by decide +kernel)), by decide +kernel⟩
theorem lk_M_188 : xLk R_M 188 m_M_reads 1 := ⟨cw_M_reads, (xm 945 (by decide +kernel) (by decide +kernel)), by decide +kernel⟩
theorem lk_M_191 : xLk R_M 191 m_M_stores 1 := ⟨cw_M_stores, (xm 948 (by decide +kernel) (by decide +kernel)), by decide +kernel⟩
theorem lk_M_197 : xLk R_M 197 m_M_second 1 := ⟨cw_M_second, (xm 951 (by decide +kernel) (by decide +kernel)), by decide +kernel⟩
theorem lk_M_200 : xLk R_M 200 m_M_ends 1 := ⟨cw_M_ends, (xm 955 (by decide +kernel) (by decide +kernel)), by decide +kernel⟩
theorem lk_M_206 : xLk R_M 206 m_M_writeMap 4 := ⟨cw_M_writeMap, (xm 959 (by decide +kernel) (by decide +kernel)), by decide +kernel⟩
theorem lk_M_210 : xLk R_M 210 m_M_proposed 1 := ⟨cw_M_proposed, (xm 963 (by decide +kernel) (by decide +kernel)), by decide +kernel⟩
theorem lk_M_213 : xLk R_M 213 m_M_many16 1 := ⟨cw_M_many16, (xm 967 (by decide +kernel) (by decide +kernel)), by decide +kernel⟩
theorem lk_L_30 : xLk R_L 30 m_M_write 3 := ⟨cw_M_write, (xm 970 (by decide +kernel) (by decide +kernel)), by decide +kernel⟩
theorem lk_L_35 : xLk R_L 35 m_M_propose 4 := ⟨cw_M_propose, (xm 974 (by decide +kernel) (by decide +kernel)), by decide +kernel⟩
theorem lk_L_40 : xLk R_L 40 m_M_retire 1 := ⟨cw_M_retire, (xm 978 (by decide +kernel) (by decide +kernel)), by decide +kernel⟩
theorem lk_M_258 : xLk R_M 258 m_M_least 1 := ⟨cw_M_least, (xm 982 (by decide +kernel) (by decide +kernel)), by decide +kernel⟩
theorem lk_L_44 : xLk R_L 44 m_M_again 1 := ⟨cw_M_again, (xm 986 (by decide +kernel) (by decide +kernel)), by decide +kernel⟩
theorem lk_L_49 : xLk R_L 49 m_M_gossip 2 := ⟨cw_M_gossip, (xm 990 (by decide +kernel) (by decide +kernel)), by decide +kernel⟩
theorem lk_L_53 : xLk R_L 53 m_M_join 2 := ⟨cw_M_join, (xm 994 (by decide +kernel) (by decide +kernel)), by decide +kernel⟩
theorem lk_L_57 : xLk R_L 57 m_M_deliver 1 := ⟨cw_M_deliver, (xm 998 (by decide +kernel) (by decide +kernel)), by decide +kernel⟩
theorem lk_M_261 : xLk R_M 261 m_M_remove 1 := ⟨cw_M_remove, (xm 1002 (by decide +kernel) (by decide +kernel)), by decide +kernel⟩
theorem lk_M_264 : xLk R_M 264 m_M_merges 1 := ⟨cw_M_merges, (xm 1006 (by decide +kernel) (by decide +kernel)), by decide +kernel⟩
theorem lk_M_219 : xLk R_M 219 m_M_looks 2 := ⟨cw_M_looks, (xm 1010 (by decide +kernel) (by decide +kernel)), by decide +kernel⟩
theorem lk_M_267 : xLk R_M 267 m_M_handles 1 := ⟨cw_M_handles, (xm 1014 (by decide +kernel) (by decide +kernel)), by decide +kernel⟩
theorem lk_M_223 : xLk R_M 223 m_M_answer 7 := ⟨cw_M_answer, (xm 1018 (by decide +kernel) (by decide +kernel)), by decide +kernel⟩
theorem lk_M_227 : xLk R_M 227 m_M_votes 2 := ⟨cw_M_votes, (xm 1022 (by decide +kernel) (by decide +kernel)), by decide +kernel⟩
theorem lk_M_230 : xLk R_M 230 m_M_storeAll 1 := ⟨cw_M_storeAll, (xm 1026 (by decide +kernel) (by decide +kernel)), by decide +kernel⟩
theorem lk_M_236 : xLk R_M 236 m_M_counts 1 := ⟨cw_M_counts, (xm 1030 (by decide +kernel) (by decide +kernel)), by decide +kernel⟩
theorem lk_M_239 : xLk R_M 239 m_M_answers 1 := ⟨cw_M_answers, (xm 1034 (by decide +kernel) (by decide +kernel)), by decide +kernel⟩
theorem lk_M_242 : xLk R_M 242 m_M_hasAnswered 1 := ⟨cw_M_hasAnswered, (xm 1038 (by decide +kernel) (by decide +kernel)), by decide +kernel⟩
theorem lk_L_62 : xLk R_L 62 m_M_lose 1 := ⟨cw_M_lose, (xm 1042 (by decide +kernel) (by decide +kernel)), by decide +kernel⟩
theorem lk_L_66 : xLk R_L 66 m_M_twice 1 := ⟨cw_M_twice, (xm 1046 (by decide +kernel) (by decide +kernel)), by decide +kernel⟩
theorem lk_L_70 : xLk R_L 70 m_M_crash 1 := ⟨cw_M_crash, (xm 1050 (by decide +kernel) (by decide +kernel)), by decide +kernel⟩
theorem lk_L_74 : xLk R_L 74 m_M_restart 1 := ⟨cw_M_restart, (xm 1054 (by decide +kernel) (by decide +kernel)), by decide +kernel⟩
theorem lk_L_78 : xLk R_L 78 m_M_arm 2 := ⟨cw_M_arm, (xm 1058 (by decide +kernel) (by decide +kernel)), by decide +kernel⟩
theorem lk_L_82 : xLk R_L 82 m_M_node 2 := ⟨cw_M_node, (xm 1062 (by decide +kernel) (by decide +kernel)), by decide +kernel⟩
theorem lk_L_85 : xLk R_L 85 m_M_cell 3 := ⟨cw_M_cell, (xm 1066 (by decide +kernel) (by decide +kernel)), by decide +kernel⟩
theorem lk_L_89 : xLk R_L 89 m_M_map 3 := ⟨cw_M_map, (xm 1070 (by decide +kernel) (by decide +kernel)), by decide +kernel⟩
theorem lk_L_93 : xLk R_L 93 m_M_task 2 := ⟨cw_M_task, (xm 1074 (by decide +kernel) (by decide +kernel)), by decide +kernel⟩
theorem lk_L_97 : xLk R_L 97 m_M_message 2 := ⟨cw_M_message, (xm 1078 (by decide +kernel) (by decide +kernel)), by decide +kernel⟩
theorem lk_L_101 : xLk R_L 101 m_M_count 1 := ⟨cw_M_count, (xm 1082 (by decide +kernel) (by decide +kernel)), by decide +kernel⟩
