/-! THE CLAIM OUT OF ONE WALK OF THE LAW'S BODY. Your part is whole_start (and what it stands on); all else here is the same for every law, but numbers. -/
def R_law : String := "SeekLeagueLaw"
def lw_P (b : Addr) (xs : List Int32) (args : Array Value) (s : State) : Prop := args = #[.ref b] ∧ s.IntsAt b xs ∧ xs.length ≤ 1536 ∧ (Jvm.Cond.and given_1 narrow_1).before args s = true
def lw_Q (_ : Array Value) (s : State) (o : Outcome) (t : State) : Prop := o = .returned (some (.int 1)) ∧ Framed s o t [] 600000 7302250
def lw_Z (below : List Frame) (a : Array Value) (s : State) : State → Prop := fun t => ∃ o, t.status = .running ∧ Ended t below o ∧ lw_Q a s o t
/-- the law's own end, with 1 on the stack, nothing written that was there before, its room as the claim has it -/
theorem lw_ret {p : Program} {l : Launch} {e : Env} {s : State} {m : MethodId} {below : List Frame} {meth : Method} {c : Code} {b : Nat} (hx : p.tables.exec = Jvm.exec) (hb : c.code = code) (hr : meth.sig.returnType = ret) (hlocks : meth.locks = false) {pc : Nat} {H : Heap} {ls : Array Slot} (hdg : decode code pc = .ok (.ireturn, 1)) : W p l e room_1 s m #[Value.ref b] below meth c H [] 600000 7302250 (lw_Z below #[Value.ref b] s) (F0 m pc ls [.int 1]) := by
  intro T hT X
  obtain ⟨fs, hret, hrun, hended, hW, hframe⟩ := X.leave (v := some (.int 1)) (hlocks := hlocks) (fun h => by rw [hr] at h; cases h)
  have hmeth' : T.vm.method? m = some meth := X.method'
  refine ⟨T.setFrames fs, ?_, .returned (some (.int 1)), hrun, hended, rfl, ⟨_, rfl⟩, hW, hframe⟩
  jvm_step X.here [X.here.top, hx, hb, hdg, hmeth', hr, ret, narrow_b1]
  (try refine ⟨rfl, ?_⟩); (try refine ⟨rfl, ?_⟩)
  first | (intro acts; rw [hret _ acts rfl rfl rfl]) | rw [hret _ _ rfl rfl rfl]
  exact Steps.refl _
/-- what holds at the law's entry: the machine, the code, the tables' words (any of lw_tbl by 'hts w (by decide +kernel)'), the script of L ints xs at the cell b, what the Statement gives of the start (any of its parts by flat_of_before) -/
def lw_At (p : Program) (s : State) (m : MethodId) (meth : Method) (c : Code) (b L : Nat) (xs : Nat → Int32) : Prop :=
  p.tables.exec = Jvm.exec ∧ c.code = code ∧ meth.sig.returnType = ret ∧ c.maxLocals = 4 ∧ s.vm.findClass R_law = some m.cls ∧ (∀ w ∈ lw_tbl, w.before #[Value.ref b] s = true) ∧ va_X b L xs s s.heap ∧ b < s.heap.size ∧ meth.locks = false ∧ (Jvm.Cond.and given_1 narrow_1).before #[Value.ref b] s = true
set_option maxRecDepth 20000 in
theorem kL_100 : cv_ RL 100 yX7_play cX7_play 3 (some .int) 0 := ⟨uw_in 527 rfl rfl, uw_in 528 rfl rfl, uw_in 529 rfl rfl, uw_in 36 rfl rfl, uw_in 530 rfl rfl, ⟨by decide, by decide, by decide +kernel⟩⟩
set_option maxRecDepth 20000 in
theorem kL_103 : cv_ RL 103 yX8_play cX8_play 2 (some .int) 0 := ⟨uw_in 841 rfl rfl, uw_in 842 rfl rfl, uw_in 843 rfl rfl, uw_in 41 rfl rfl, uw_in 844 rfl rfl, ⟨by decide, by decide, by decide +kernel⟩⟩
set_option maxRecDepth 20000 in
theorem kL_104 : cv_ RL 104 yX7_undo cX7_undo 1 (some .int) 0 := ⟨uw_in 544 rfl rfl, uw_in 545 rfl rfl, uw_in 546 rfl rfl, uw_in 36 rfl rfl, uw_in 547 rfl rfl, ⟨by decide, by decide, by decide +kernel⟩⟩
set_option maxRecDepth 20000 in
theorem kL_107 : cv_ RL 107 yX8_undo cX8_undo 2 (some .int) 0 := ⟨uw_in 602 rfl rfl, uw_in 603 rfl rfl, uw_in 604 rfl rfl, uw_in 41 rfl rfl, uw_in 605 rfl rfl, ⟨by decide, by decide, by decide +kernel⟩⟩
set_option maxRecDepth 20000 in
theorem kL_108 : cv_ RL 108 yX7_save cX7_save 1 (some .int) 0 := ⟨uw_in 552 rfl rfl, uw_in 553 rfl rfl, uw_in 554 rfl rfl, uw_in 36 rfl rfl, uw_in 555 rfl rfl, ⟨by decide, by decide, by decide +kernel⟩⟩
set_option maxRecDepth 20000 in
theorem kL_111 : cv_ RL 111 yX8_save cX8_save 2 (some .int) 0 := ⟨uw_in 606 rfl rfl, uw_in 607 rfl rfl, uw_in 608 rfl rfl, uw_in 41 rfl rfl, uw_in 609 rfl rfl, ⟨by decide, by decide, by decide +kernel⟩⟩
set_option maxRecDepth 20000 in
theorem kL_112 : cv_ RL 112 yX7_restore cX7_restore 1 (some .int) 0 := ⟨uw_in 557 rfl rfl, uw_in 558 rfl rfl, uw_in 559 rfl rfl, uw_in 36 rfl rfl, uw_in 560 rfl rfl, ⟨by decide, by decide, by decide +kernel⟩⟩
set_option maxRecDepth 20000 in
theorem kL_115 : cv_ RL 115 yX8_restore cX8_restore 2 (some .int) 0 := ⟨uw_in 610 rfl rfl, uw_in 611 rfl rfl, uw_in 612 rfl rfl, uw_in 41 rfl rfl, uw_in 613 rfl rfl, ⟨by decide, by decide, by decide +kernel⟩⟩
set_option maxRecDepth 20000 in
theorem kL_13 : cv_ RL 13 yX7_set cX7_set 3 (some .int) 2 := ⟨uw_in 202 rfl rfl, uw_in 203 rfl rfl, uw_in 204 rfl rfl, uw_in 36 rfl rfl, uw_in 205 rfl rfl, ⟨by decide, by decide, by decide +kernel⟩⟩
set_option maxRecDepth 20000 in
theorem kL_17 : cv_ RL 17 yX8_set cX8_set 4 (some .int) 2 := ⟨uw_in 618 rfl rfl, uw_in 619 rfl rfl, uw_in 620 rfl rfl, uw_in 41 rfl rfl, uw_in 621 rfl rfl, ⟨by decide, by decide, by decide +kernel⟩⟩
set_option maxRecDepth 20000 in
theorem kL_18 : cv_ RL 18 yX7_setting cX7_setting 2 (some .int) 1 := ⟨uw_in 235 rfl rfl, uw_in 236 rfl rfl, uw_in 237 rfl rfl, uw_in 36 rfl rfl, uw_in 238 rfl rfl, ⟨by decide, by decide, by decide +kernel⟩⟩
set_option maxRecDepth 20000 in
theorem kL_22 : cv_ RL 22 yX8_setting cX8_setting 2 (some .int) 1 := ⟨uw_in 628 rfl rfl, uw_in 629 rfl rfl, uw_in 630 rfl rfl, uw_in 41 rfl rfl, uw_in 631 rfl rfl, ⟨by decide, by decide, by decide +kernel⟩⟩
set_option maxRecDepth 20000 in
theorem kL_23 : cv_ RL 23 yX7_join cX7_join 1 (some .int) 0 := ⟨uw_in 240 rfl rfl, uw_in 241 rfl rfl, uw_in 242 rfl rfl, uw_in 36 rfl rfl, uw_in 243 rfl rfl, ⟨by decide, by decide, by decide +kernel⟩⟩
set_option maxRecDepth 20000 in
theorem kL_27 : cv_ RL 27 yX8_join cX8_join 2 (some .int) 0 := ⟨uw_in 632 rfl rfl, uw_in 633 rfl rfl, uw_in 634 rfl rfl, uw_in 41 rfl rfl, uw_in 635 rfl rfl, ⟨by decide, by decide, by decide +kernel⟩⟩
set_option maxRecDepth 20000 in
theorem kL_28 : cv_ RL 28 yX7_start cX7_start 3 (some .int) 2 := ⟨uw_in 247 rfl rfl, uw_in 248 rfl rfl, uw_in 249 rfl rfl, uw_in 36 rfl rfl, uw_in 250 rfl rfl, ⟨by decide, by decide, by decide +kernel⟩⟩
set_option maxRecDepth 20000 in
theorem kL_31 : cv_ RL 31 yX8_start cX8_start 5 (some .int) 2 := ⟨uw_in 640 rfl rfl, uw_in 641 rfl rfl, uw_in 642 rfl rfl, uw_in 41 rfl rfl, uw_in 643 rfl rfl, ⟨by decide, by decide, by decide +kernel⟩⟩
set_option maxRecDepth 20000 in
theorem kL_32 : cv_ RL 32 yX7_hide cX7_hide 3 (some .int) 2 := ⟨uw_in 306 rfl rfl, uw_in 307 rfl rfl, uw_in 308 rfl rfl, uw_in 36 rfl rfl, uw_in 309 rfl rfl, ⟨by decide, by decide, by decide +kernel⟩⟩
set_option maxRecDepth 20000 in
theorem kL_35 : cv_ RL 35 yX8_hide cX8_hide 4 (some .int) 2 := ⟨uw_in 682 rfl rfl, uw_in 683 rfl rfl, uw_in 684 rfl rfl, uw_in 41 rfl rfl, uw_in 685 rfl rfl, ⟨by decide, by decide, by decide +kernel⟩⟩
set_option maxRecDepth 20000 in
theorem kL_36 : cv_ RL 36 yX7_seek cX7_seek 1 (some .int) 0 := ⟨uw_in 322 rfl rfl, uw_in 323 rfl rfl, uw_in 324 rfl rfl, uw_in 36 rfl rfl, uw_in 325 rfl rfl, ⟨by decide, by decide, by decide +kernel⟩⟩
set_option maxRecDepth 20000 in
theorem kL_39 : cv_ RL 39 yX8_seek cX8_seek 1 (some .int) 0 := ⟨uw_in 693 rfl rfl, uw_in 694 rfl rfl, uw_in 695 rfl rfl, uw_in 41 rfl rfl, uw_in 696 rfl rfl, ⟨by decide, by decide, by decide +kernel⟩⟩
set_option maxRecDepth 20000 in
theorem kL_40 : cv_ RL 40 yX7_walk cX7_walk 2 (some .int) 1 := ⟨uw_in 344 rfl rfl, uw_in 345 rfl rfl, uw_in 346 rfl rfl, uw_in 36 rfl rfl, uw_in 347 rfl rfl, ⟨by decide, by decide, by decide +kernel⟩⟩
set_option maxRecDepth 20000 in
theorem kL_43 : cv_ RL 43 yX8_walk cX8_walk 2 (some .int) 1 := ⟨uw_in 713 rfl rfl, uw_in 714 rfl rfl, uw_in 715 rfl rfl, uw_in 41 rfl rfl, uw_in 716 rfl rfl, ⟨by decide, by decide, by decide +kernel⟩⟩
set_option maxRecDepth 20000 in
theorem kL_44 : cv_ RL 44 yX7_cry cX7_cry 3 (some .int) 2 := ⟨uw_in 354 rfl rfl, uw_in 355 rfl rfl, uw_in 356 rfl rfl, uw_in 36 rfl rfl, uw_in 357 rfl rfl, ⟨by decide, by decide, by decide +kernel⟩⟩
set_option maxRecDepth 20000 in
theorem kL_47 : cv_ RL 47 yX8_cry cX8_cry 4 (some .int) 2 := ⟨uw_in 721 rfl rfl, uw_in 722 rfl rfl, uw_in 723 rfl rfl, uw_in 41 rfl rfl, uw_in 724 rfl rfl, ⟨by decide, by decide, by decide +kernel⟩⟩
set_option maxRecDepth 20000 in
theorem kL_48 : cv_ RL 48 yX7_dash cX7_dash 2 (some .int) 1 := ⟨uw_in 383 rfl rfl, uw_in 384 rfl rfl, uw_in 385 rfl rfl, uw_in 36 rfl rfl, uw_in 386 rfl rfl, ⟨by decide, by decide, by decide +kernel⟩⟩
set_option maxRecDepth 20000 in
theorem kL_51 : cv_ RL 51 yX8_dash cX8_dash 3 (some .int) 1 := ⟨uw_in 741 rfl rfl, uw_in 742 rfl rfl, uw_in 743 rfl rfl, uw_in 41 rfl rfl, uw_in 744 rfl rfl, ⟨by decide, by decide, by decide +kernel⟩⟩
set_option maxRecDepth 20000 in
theorem kL_52 : cv_ RL 52 yX7_player cX7_player 3 (some .int) 2 := ⟨uw_in 394 rfl rfl, uw_in 395 rfl rfl, uw_in 396 rfl rfl, uw_in 36 rfl rfl, uw_in 397 rfl rfl, ⟨by decide, by decide, by decide +kernel⟩⟩
set_option maxRecDepth 20000 in
theorem kL_55 : cv_ RL 55 yX8_player cX8_player 3 (some .int) 2 := ⟨uw_in 757 rfl rfl, uw_in 758 rfl rfl, uw_in 759 rfl rfl, uw_in 41 rfl rfl, uw_in 760 rfl rfl, ⟨by decide, by decide, by decide +kernel⟩⟩
set_option maxRecDepth 20000 in
theorem kL_56 : cv_ RL 56 yX7_spot cX7_spot 3 (some .int) 2 := ⟨uw_in 405 rfl rfl, uw_in 406 rfl rfl, uw_in 407 rfl rfl, uw_in 36 rfl rfl, uw_in 408 rfl rfl, ⟨by decide, by decide, by decide +kernel⟩⟩
set_option maxRecDepth 20000 in
theorem kL_59 : cv_ RL 59 yX8_spot cX8_spot 3 (some .int) 2 := ⟨uw_in 769 rfl rfl, uw_in 770 rfl rfl, uw_in 771 rfl rfl, uw_in 41 rfl rfl, uw_in 772 rfl rfl, ⟨by decide, by decide, by decide +kernel⟩⟩
set_option maxRecDepth 20000 in
theorem kL_60 : cv_ RL 60 yX7_ranked cX7_ranked 2 (some .int) 1 := ⟨uw_in 413 rfl rfl, uw_in 414 rfl rfl, uw_in 415 rfl rfl, uw_in 36 rfl rfl, uw_in 416 rfl rfl, ⟨by decide, by decide, by decide +kernel⟩⟩
set_option maxRecDepth 20000 in
theorem kL_63 : cv_ RL 63 yX8_ranked cX8_ranked 4 (some .int) 1 := ⟨uw_in 773 rfl rfl, uw_in 774 rfl rfl, uw_in 775 rfl rfl, uw_in 41 rfl rfl, uw_in 776 rfl rfl, ⟨by decide, by decide, by decide +kernel⟩⟩
set_option maxRecDepth 20000 in
theorem kL_64 : cv_ RL 64 yX7_nextSeeker cX7_nextSeeker 1 (some .int) 0 := ⟨uw_in 421 rfl rfl, uw_in 422 rfl rfl, uw_in 423 rfl rfl, uw_in 36 rfl rfl, uw_in 424 rfl rfl, ⟨by decide, by decide, by decide +kernel⟩⟩
set_option maxRecDepth 20000 in
theorem kL_67 : cv_ RL 67 yX8_nextSeeker cX8_nextSeeker 4 (some .int) 0 := ⟨uw_in 777 rfl rfl, uw_in 778 rfl rfl, uw_in 779 rfl rfl, uw_in 41 rfl rfl, uw_in 780 rfl rfl, ⟨by decide, by decide, by decide +kernel⟩⟩
set_option maxRecDepth 20000 in
theorem kL_68 : cv_ RL 68 yX7_total cX7_total 2 (some .int) 1 := ⟨uw_in 432 rfl rfl, uw_in 433 rfl rfl, uw_in 434 rfl rfl, uw_in 36 rfl rfl, uw_in 435 rfl rfl, ⟨by decide, by decide, by decide +kernel⟩⟩
set_option maxRecDepth 20000 in
theorem kL_71 : cv_ RL 71 yX8_total cX8_total 2 (some .int) 1 := ⟨uw_in 781 rfl rfl, uw_in 782 rfl rfl, uw_in 783 rfl rfl, uw_in 41 rfl rfl, uw_in 784 rfl rfl, ⟨by decide, by decide, by decide +kernel⟩⟩
set_option maxRecDepth 20000 in
theorem kL_72 : cv_ RL 72 yX7_inSight cX7_inSight 1 (some .int) 0 := ⟨uw_in 445 rfl rfl, uw_in 446 rfl rfl, uw_in 447 rfl rfl, uw_in 36 rfl rfl, uw_in 448 rfl rfl, ⟨by decide, by decide, by decide +kernel⟩⟩
set_option maxRecDepth 20000 in
theorem kL_75 : cv_ RL 75 yX8_inSight cX8_inSight 3 (some .int) 0 := ⟨uw_in 793 rfl rfl, uw_in 794 rfl rfl, uw_in 795 rfl rfl, uw_in 41 rfl rfl, uw_in 796 rfl rfl, ⟨by decide, by decide, by decide +kernel⟩⟩
set_option maxRecDepth 20000 in
theorem kL_76 : cv_ RL 76 yX7_couldDash cX7_couldDash 1 (some .int) 0 := ⟨uw_in 453 rfl rfl, uw_in 454 rfl rfl, uw_in 455 rfl rfl, uw_in 36 rfl rfl, uw_in 456 rfl rfl, ⟨by decide, by decide, by decide +kernel⟩⟩
set_option maxRecDepth 20000 in
theorem kL_79 : cv_ RL 79 yX8_couldDash cX8_couldDash 3 (some .int) 0 := ⟨uw_in 797 rfl rfl, uw_in 798 rfl rfl, uw_in 799 rfl rfl, uw_in 41 rfl rfl, uw_in 800 rfl rfl, ⟨by decide, by decide, by decide +kernel⟩⟩
set_option maxRecDepth 20000 in
theorem kL_80 : cv_ RL 80 yX7_bestSpot cX7_bestSpot 1 (some .int) 0 := ⟨uw_in 461 rfl rfl, uw_in 462 rfl rfl, uw_in 463 rfl rfl, uw_in 36 rfl rfl, uw_in 464 rfl rfl, ⟨by decide, by decide, by decide +kernel⟩⟩
set_option maxRecDepth 20000 in
theorem kL_83 : cv_ RL 83 yX8_bestSpot cX8_bestSpot 3 (some .int) 0 := ⟨uw_in 801 rfl rfl, uw_in 802 rfl rfl, uw_in 803 rfl rfl, uw_in 41 rfl rfl, uw_in 804 rfl rfl, ⟨by decide, by decide, by decide +kernel⟩⟩
set_option maxRecDepth 20000 in
theorem kL_84 : cv_ RL 84 yX7_fewestSteps cX7_fewestSteps 1 (some .int) 0 := ⟨uw_in 475 rfl rfl, uw_in 476 rfl rfl, uw_in 477 rfl rfl, uw_in 36 rfl rfl, uw_in 478 rfl rfl, ⟨by decide, by decide, by decide +kernel⟩⟩
set_option maxRecDepth 20000 in
theorem kL_87 : cv_ RL 87 yX8_fewestSteps cX8_fewestSteps 5 (some .int) 0 := ⟨uw_in 809 rfl rfl, uw_in 810 rfl rfl, uw_in 811 rfl rfl, uw_in 41 rfl rfl, uw_in 812 rfl rfl, ⟨by decide, by decide, by decide +kernel⟩⟩
set_option maxRecDepth 20000 in
theorem kL_88 : cv_ RL 88 yX7_append cX7_append 2 (some .int) 1 := ⟨uw_in 491 rfl rfl, uw_in 492 rfl rfl, uw_in 493 rfl rfl, uw_in 36 rfl rfl, uw_in 494 rfl rfl, ⟨by decide, by decide, by decide +kernel⟩⟩
set_option maxRecDepth 20000 in
theorem kL_91 : cv_ RL 91 yX8_append cX8_append 2 (some .int) 1 := ⟨uw_in 817 rfl rfl, uw_in 818 rfl rfl, uw_in 819 rfl rfl, uw_in 41 rfl rfl, uw_in 820 rfl rfl, ⟨by decide, by decide, by decide +kernel⟩⟩
set_option maxRecDepth 20000 in
theorem kL_92 : cv_ RL 92 yX7_clearText cX7_clearText 1 (some .int) 0 := ⟨uw_in 499 rfl rfl, uw_in 500 rfl rfl, uw_in 501 rfl rfl, uw_in 36 rfl rfl, uw_in 502 rfl rfl, ⟨by decide, by decide, by decide +kernel⟩⟩
set_option maxRecDepth 20000 in
theorem kL_95 : cv_ RL 95 yX8_clearText cX8_clearText 2 (some .int) 0 := ⟨uw_in 821 rfl rfl, uw_in 822 rfl rfl, uw_in 823 rfl rfl, uw_in 41 rfl rfl, uw_in 824 rfl rfl, ⟨by decide, by decide, by decide +kernel⟩⟩
set_option maxRecDepth 20000 in
theorem kL_96 : cv_ RL 96 yX7_errorPosition cX7_errorPosition 1 (some .int) 0 := ⟨uw_in 507 rfl rfl, uw_in 508 rfl rfl, uw_in 509 rfl rfl, uw_in 36 rfl rfl, uw_in 510 rfl rfl, ⟨by decide, by decide, by decide +kernel⟩⟩
set_option maxRecDepth 20000 in
theorem kL_99 : cv_ RL 99 yX8_errorPosition cX8_errorPosition 2 (some .int) 0 := ⟨uw_in 825 rfl rfl, uw_in 826 rfl rfl, uw_in 827 rfl rfl, uw_in 41 rfl rfl, uw_in 828 rfl rfl, ⟨by decide, by decide, by decide +kernel⟩⟩
/-- what the law asks of the functions -/
def ops_ (rel : Nat → s3_T → (Nat → Nat) → sg_T → Prop) : Prop :=
  (∀ (i : Nat) (Λ : s3_T) (π : Nat → Nat) (μ : sg_T), rel i Λ π μ → rel (i + 1) Λ π μ) ∧
  (∀ (i : Nat) (Λ : s3_T) (π : Nat → Nat) (μ : sg_T) (a b : Int32), i < 512 → rel i Λ π μ → ∃ (r : Int32) (Λ' : s3_T) (π' : Nat → Nat) (μ' : sg_T), fX7_set a b Λ π = some (r, Λ', π') ∧ fX8_set a b μ = some (r, μ') ∧ rel (i + 1) Λ' π' μ') ∧
  (∀ (i : Nat) (Λ : s3_T) (π : Nat → Nat) (μ : sg_T) (a : Int32), i < 512 → rel i Λ π μ → ∃ (r : Int32), fX7_setting a Λ π = some r ∧ fX8_setting a μ = some r) ∧
  (∀ (i : Nat) (Λ : s3_T) (π : Nat → Nat) (μ : sg_T), i < 512 → rel i Λ π μ → ∃ (r : Int32) (Λ' : s3_T) (π' : Nat → Nat) (μ' : sg_T), fX7_join Λ π = some (r, Λ', π') ∧ fX8_join μ = some (r, μ') ∧ rel (i + 1) Λ' π' μ') ∧
  (∀ (i : Nat) (Λ : s3_T) (π : Nat → Nat) (μ : sg_T) (a b : Int32), i < 512 → rel i Λ π μ → ∃ (r : Int32) (Λ' : s3_T) (π' : Nat → Nat) (μ' : sg_T), fX7_start a b Λ π = some (r, Λ', π') ∧ fX8_start a b μ = some (r, μ') ∧ rel (i + 1) Λ' π' μ') ∧
  (∀ (i : Nat) (Λ : s3_T) (π : Nat → Nat) (μ : sg_T) (a b : Int32), i < 512 → rel i Λ π μ → ∃ (r : Int32) (Λ' : s3_T) (π' : Nat → Nat) (μ' : sg_T), fX7_hide a b Λ π = some (r, Λ', π') ∧ fX8_hide a b μ = some (r, μ') ∧ rel (i + 1) Λ' π' μ') ∧
  (∀ (i : Nat) (Λ : s3_T) (π : Nat → Nat) (μ : sg_T), i < 512 → rel i Λ π μ → ∃ (r : Int32) (Λ' : s3_T) (π' : Nat → Nat) (μ' : sg_T), fX7_seek Λ π = some (r, Λ', π') ∧ fX8_seek μ = some (r, μ') ∧ rel (i + 1) Λ' π' μ') ∧
  (∀ (i : Nat) (Λ : s3_T) (π : Nat → Nat) (μ : sg_T) (a : Int32), i < 512 → rel i Λ π μ → ∃ (r : Int32) (Λ' : s3_T) (π' : Nat → Nat) (μ' : sg_T), fX7_walk a Λ π = some (r, Λ', π') ∧ fX8_walk a μ = some (r, μ') ∧ rel (i + 1) Λ' π' μ') ∧
  (∀ (i : Nat) (Λ : s3_T) (π : Nat → Nat) (μ : sg_T) (a b : Int32), i < 512 → rel i Λ π μ → ∃ (r : Int32) (Λ' : s3_T) (π' : Nat → Nat) (μ' : sg_T), fX7_cry a b Λ π = some (r, Λ', π') ∧ fX8_cry a b μ = some (r, μ') ∧ rel (i + 1) Λ' π' μ') ∧
  (∀ (i : Nat) (Λ : s3_T) (π : Nat → Nat) (μ : sg_T) (a : Int32), i < 512 → rel i Λ π μ → ∃ (r : Int32) (Λ' : s3_T) (π' : Nat → Nat) (μ' : sg_T), fX7_dash a Λ π = some (r, Λ', π') ∧ fX8_dash a μ = some (r, μ') ∧ rel (i + 1) Λ' π' μ') ∧
  (∀ (i : Nat) (Λ : s3_T) (π : Nat → Nat) (μ : sg_T) (a b : Int32), i < 512 → rel i Λ π μ → ∃ (r : Int32), fX7_player a b Λ π = some r ∧ fX8_player a b μ = some r) ∧
  (∀ (i : Nat) (Λ : s3_T) (π : Nat → Nat) (μ : sg_T) (a b : Int32), i < 512 → rel i Λ π μ → ∃ (r : Int32), fX7_spot a b Λ π = some r ∧ fX8_spot a b μ = some r) ∧
  (∀ (i : Nat) (Λ : s3_T) (π : Nat → Nat) (μ : sg_T) (a : Int32), i < 512 → rel i Λ π μ → ∃ (r : Int32), fX7_ranked a Λ π = some r ∧ fX8_ranked a μ = some r) ∧
  (∀ (i : Nat) (Λ : s3_T) (π : Nat → Nat) (μ : sg_T), i < 512 → rel i Λ π μ → ∃ (r : Int32), fX7_nextSeeker Λ π = some r ∧ fX8_nextSeeker μ = some r) ∧
  (∀ (i : Nat) (Λ : s3_T) (π : Nat → Nat) (μ : sg_T) (a : Int32), i < 512 → rel i Λ π μ → ∃ (r : Int32), fX7_total a Λ π = some r ∧ fX8_total a μ = some r) ∧
  (∀ (i : Nat) (Λ : s3_T) (π : Nat → Nat) (μ : sg_T), i < 512 → rel i Λ π μ → ∃ (r : Int32), fX7_inSight Λ π = some r ∧ fX8_inSight μ = some r) ∧
  (∀ (i : Nat) (Λ : s3_T) (π : Nat → Nat) (μ : sg_T), i < 512 → rel i Λ π μ → ∃ (r : Int32), fX7_couldDash Λ π = some r ∧ fX8_couldDash μ = some r) ∧
  (∀ (i : Nat) (Λ : s3_T) (π : Nat → Nat) (μ : sg_T), i < 512 → rel i Λ π μ → ∃ (r : Int32), fX7_bestSpot Λ π = some r ∧ fX8_bestSpot μ = some r) ∧
  (∀ (i : Nat) (Λ : s3_T) (π : Nat → Nat) (μ : sg_T), i < 512 → rel i Λ π μ → ∃ (r : Int32), fX7_fewestSteps Λ π = some r ∧ fX8_fewestSteps μ = some r) ∧
  (∀ (i : Nat) (Λ : s3_T) (π : Nat → Nat) (μ : sg_T) (a : Int32), i < 512 → rel i Λ π μ → ∃ (r : Int32) (Λ' : s3_T) (π' : Nat → Nat) (μ' : sg_T), fX7_append a Λ π = some (r, Λ', π') ∧ fX8_append a μ = some (r, μ') ∧ rel (i + 1) Λ' π' μ') ∧
  (∀ (i : Nat) (Λ : s3_T) (π : Nat → Nat) (μ : sg_T), i < 512 → rel i Λ π μ → ∃ (r : Int32) (Λ' : s3_T) (π' : Nat → Nat) (μ' : sg_T), fX7_clearText Λ π = some (r, Λ', π') ∧ fX8_clearText μ = some (r, μ') ∧ rel (i + 1) Λ' π' μ') ∧
  (∀ (i : Nat) (Λ : s3_T) (π : Nat → Nat) (μ : sg_T), i < 512 → rel i Λ π μ → ∃ (r : Int32) (μ' : sg_T), fX7_errorPosition Λ π = some r ∧ fX8_errorPosition μ = some (r, μ') ∧ rel (i + 1) Λ π μ') ∧
  (∀ (i : Nat) (Λ : s3_T) (π : Nat → Nat) (μ : sg_T), i < 512 → rel i Λ π μ → ∃ (r : Int32) (Λ' : s3_T) (π' : Nat → Nat) (μ' : sg_T), fX7_play Λ π = some (r, Λ', π') ∧ fX8_play μ = some (r, μ') ∧ rel (i + 1) Λ' π' μ') ∧
  (∀ (i : Nat) (Λ : s3_T) (π : Nat → Nat) (μ : sg_T), i < 512 → rel i Λ π μ → ∃ (r : Int32) (Λ' : s3_T) (π' : Nat → Nat) (μ' : sg_T), fX7_undo Λ π = some (r, Λ', π') ∧ fX8_undo μ = some (r, μ') ∧ rel (i + 1) Λ' π' μ') ∧
  (∀ (i : Nat) (Λ : s3_T) (π : Nat → Nat) (μ : sg_T), i < 512 → rel i Λ π μ → ∃ (r : Int32) (Λ' : s3_T) (π' : Nat → Nat) (μ' : sg_T), fX7_save Λ π = some (r, Λ', π') ∧ fX8_save μ = some (r, μ') ∧ rel (i + 1) Λ' π' μ') ∧
  (∀ (i : Nat) (Λ : s3_T) (π : Nat → Nat) (μ : sg_T), i < 512 → rel i Λ π μ → ∃ (r : Int32) (Λ' : s3_T) (π' : Nat → Nat) (μ' : sg_T), fX7_restore Λ π = some (r, Λ', π') ∧ fX8_restore μ = some (r, μ') ∧ rel (i + 1) Λ' π' μ')
def tW (cI cS cC : ClassId) : List (ClassId × FieldType) := [(cI, .int), (cS, .object RX5), (cC, .char)]
abbrev wW (cI cS cC : ClassId) (h : Nat → Nat → Nat) (g : Nat → Nat) (Λ : s3_T) (π : Nat → Nat) (μ : sg_T) : va_W := wL cI cS h Λ π ++ wM cI cC g μ
def iWL : List Nat := [0, 1, 2, 3, 4, 5, 6, 7, 8, 9, 10, 11, 12, 13, 14, 15, 16, 17, 18, 19, 20, 21, 22, 23, 24, 25, 26, 27, 28, 29, 30, 31, 32, 33, 34, 35, 36, 37, 38, 39, 40, 41, 42, 43, 44, 45, 46, 47, 48, 49, 50, 51, 52, 53, 54, 55, 56, 57, 58, 59, 60, 61, 62, 63, 64, 65, 66, 67, 68, 69, 70, 71, 72, 73, 74, 75, 76, 77, 78, 79, 80, 81, 82, 83, 84]
def iWM : List Nat := [85, 86, 87, 88, 89, 90]
def pWL : List Nat := [6, 7, 8, 9, 10, 11, 12, 13, 14, 15, 16, 17, 18, 19, 20, 21, 22, 23, 24, 25, 26, 27, 28, 29, 30, 31, 32, 33, 34, 35, 36, 37, 38, 39, 40, 41, 42, 43, 44, 45, 46, 47, 48, 49, 50, 51, 52, 53, 54, 55, 56, 57, 58, 59, 60, 61, 62, 63, 64, 65, 66, 67, 68, 69, 70, 71, 72, 73, 74, 75, 76, 77, 78, 79, 80, 81, 82, 83, 84, 85, 86, 87, 88, 89, 90, 0, 1, 2, 3, 4, 5]
def pWM : List Nat := [0, 1, 2, 3, 4, 5, 6, 7, 8, 9, 10, 11, 12, 13, 14, 15, 16, 17, 18, 19, 20, 21, 22, 23, 24, 25, 26, 27, 28, 29, 30, 31, 32, 33, 34, 35, 36, 37, 38, 39, 40, 41, 42, 43, 44, 45, 46, 47, 48, 49, 50, 51, 52, 53, 54, 55, 56, 57, 58, 59, 60, 61, 62, 63, 64, 65, 66, 67, 68, 69, 70, 71, 72, 73, 74, 75, 76, 77, 78, 79, 80, 81, 82, 83, 84, 85, 86, 87, 88, 89, 90]
set_option maxRecDepth 20000 in
theorem cWLC {cI cS cC : ClassId} (h : Nat → Nat → Nat) (g : Nat → Nat) (Λ : s3_T) (π : Nat → Nat) (μ : sg_T) : iWL.map (fun i => (wW cI cS cC h g Λ π μ)[i]?) = (wL cI cS h Λ π).map some := rfl
set_option maxRecDepth 20000 in
theorem cWMC {cI cS cC : ClassId} (h : Nat → Nat → Nat) (g : Nat → Nat) (Λ : s3_T) (π : Nat → Nat) (μ : sg_T) : iWM.map (fun i => (wW cI cS cC h g Λ π μ)[i]?) = (wM cI cC g μ).map some := rfl
set_option maxRecDepth 20000 in
theorem cWLP {cI cS cC : ClassId} (h : Nat → Nat → Nat) (g : Nat → Nat) (Λ : s3_T) (π : Nat → Nat) (μ : sg_T) (Λ' : s3_T) (π' : Nat → Nat) : pWL.map (fun i => (wM cI cC g μ ++ wL cI cS h Λ' π')[i]?) = (wW cI cS cC h g Λ' π' μ).map some := rfl
set_option maxRecDepth 20000 in
theorem cWMP {cI cS cC : ClassId} (h : Nat → Nat → Nat) (g : Nat → Nat) (Λ : s3_T) (π : Nat → Nat) (μ : sg_T) (μ' : sg_T) : pWM.map (fun i => (wL cI cS h Λ π ++ wM cI cC g μ')[i]?) = (wW cI cS cC h g Λ π μ').map some := rfl
theorem nWL : va_nd iWL = true := by decide +kernel
theorem nWM : va_nd iWM = true := by decide +kernel
theorem nPL : va_nd pWL = true := by decide +kernel
theorem nPM : va_nd pWM = true := by decide +kernel
theorem dWL : ∀ i ∈ iWM, i ∉ iWL := by decide +kernel
theorem dWM : ∀ i ∈ iWL, i ∉ iWM := by decide +kernel
theorem lw_c {L k : Nat} (hL : L ≤ 1536) (hk : 3 * k ≤ L) (h : ¬ (Int32.ofNat L - 3 < nI (3 * k))) : 3 * k + 3 ≤ L := by
  rcases Nat.lt_or_ge L 3 with q | q
  · have h0 : k = 0 := by omega
    subst h0
    exfalso
    apply h
    rcases (show L = 0 ∨ L = 1 ∨ L = 2 by omega) with rfl | rfl | rfl <;> decide
  · obtain ⟨t, rfl⟩ : ∃ t, L = t + 3 := ⟨L - 3, by omega⟩
    have e : Int32.ofNat (t + 3) - 3 = nI t := by
      show nI (t + 3) - nI 3 = nI t
      rw [← nI_add]
      exact Int32.add_sub_cancel _ _
    rw [e, nI_ltI (by omega) (by omega)] at h
    omega
theorem lw_3 (k : Nat) : nI (3 * k) + Int32.ofInt 3 = nI (3 * (k + 1)) := by
  show nI (3 * k) + nI 3 = nI (3 * (k + 1))
  rw [nI_add]
  rfl
set_option maxRecDepth 100000 in
set_option maxHeartbeats 4000000 in
/-- the law's loop -/
theorem law_loop {p : Program} {l : Launch} {e : Env} {s : State} {m : MethodId} {below : List Frame} {meth : Method} {c : Code} {D : va_G} {cI cS cC : ClassId} {b L : Nat} {xs : Nat → Int32} {h : Nat → Nat → Nat} {g : Nat → Nat} {rel : Nat → s3_T → (Nat → Nat) → sg_T → Prop} (hR : ops_ rel) (hL : L ≤ 1536) (S : CallFix p m c code 4 s #[Value.ref b] (Cond.tt :: uw_) RL) (hr : meth.sig.returnType = ret) (hlocks : meth.locks = false) (hK : va_K D vwCl (tW cI cS cC) s) (hZ : zs_ (fun q : Nat => s.heap.size ≤ q) s) (hX : va_X b L xs s s.heap) (hbl : b < s.heap.size) :
    ∀ (n k : Nat), 3 * k ≤ L → L + 3 ≤ 3 * (k + n) → ∀ (Λ : s3_T) (π : Nat → Nat) (μ : sg_T), rel k Λ π μ → ∀ (H : Heap) (locs : List Loc) (ls : Array Slot), dy_ D (fun q : Nat => s.heap.size ≤ q) s (wW cI cS cC h g Λ π μ) H locs → lv_has ls 4 [(0, .ref b), (1, .ref (h 8 0)), (2, .ref (g 0)), (3, .int (nI (3 * k)))] → W p l e room_1 s m #[Value.ref b] below meth c H locs 91 1795 (lw_Z below #[Value.ref b] s) (F0 m 18 ls []) := by
  have hx := S.1
  have hb := S.2.1
  have hA : ∀ q : Nat, s.heap.size ≤ q → (fun q : Nat => s.heap.size ≤ q) q := fun _ h => h
  have hbA : ¬ (fun q : Nat => s.heap.size ≤ q) b := Nat.not_le.mpr hbl
  intro n
  induction n with
  | zero => intro k h1 h2; exact absurd h2 (by omega)
  | succ n ih =>
    intro k hk hn Λ π μ hrel H locs ls Y hl
    refine lv_iload_n hx hb dL_law_18 rfl (lv_at hl 3 rfl) ?_
    refine lv_aload_n hx hb dL_law_19 rfl (lv_at hl 0 rfl) ?_
    refine va_slen hx hb hX hbl hbA Y.2.2 dL_law_20 ?_
    refine lv_iconst (v := (3 : Int32)) hx hb dL_law_21 (by decide) ?_
    refine lv_isub hx hb dL_law_22 ?_
    refine lv_icmp_gt (tgt := 659) hx hb dL_law_23 (by decide) (fun c1 => ?_) (fun c1 => ?_)
    · refine lv_iconst (v := (1 : Int32)) hx hb dL_law_659 (by decide) ?_
      refine va_forget (fun q hq => Y.2.2.2.2 q hq) ?_
      refine W.widen (k := 600000) (n := 7302250) (Nat.le_of_ble_eq_true rfl) (Nat.le_of_ble_eq_true rfl) ?_
      exact lw_ret hx hb hr hlocks dL_law_660
    have hlt := lw_c hL hk c1
    have hk5 : k < 512 := by omega
    have i0 : vp_in (nI (3 * k)) L := vp_in_nI (by omega) (by omega)
    have i1 : vp_in (nI (3 * k) + 1) L := by rw [nI_1]; exact vp_in_nI (by omega) (by omega)
    have i2 : vp_in (nI (3 * k) + 2) L := by show vp_in (nI (3 * k) + nI 2) L; rw [nI_add]; exact vp_in_nI (by omega) (by omega)
    have fin : ∀ (Λ : s3_T) (π : Nat → Nat) (μ : sg_T), rel (k + 1) Λ π μ → ∀ (H : Heap) (locs : List Loc), dy_ D (fun q : Nat => s.heap.size ≤ q) s (wW cI cS cC h g Λ π μ) H locs → W p l e room_1 s m #[Value.ref b] below meth c H locs 91 1795 (lw_Z below #[Value.ref b] s) (F0 m 653 ls []) := by
      intro Λ π μ hrel H locs Y
      refine lv_iinc (v := nI (3 * (k + 1))) (lv' := [(3, .int (nI (3 * (k + 1)))), (0, .ref b), (1, .ref (h 8 0)), (2, .ref (g 0))]) hx hb dL_law_653 hl (k := 3) rfl (lw_3 k) (Nat.le_of_ble_eq_true rfl) rfl (fun ls hl => ?_)
      refine lv_goto (tgt := 18) hx hb dL_law_656 (by decide) ?_
      exact ih (k + 1) (by omega) (by omega) Λ π μ hrel _ _ _ Y (lv_sub hl [1, 2, 3, 0] rfl)
    refine lv_aload_n hx hb dL_law_26 rfl (lv_at hl 0 rfl) ?_
    refine lv_iload_n hx hb dL_law_27 rfl (lv_at hl 3 rfl) ?_
    refine va_sld hx hb hX hbl hbA Y.2.2 i0 dL_law_28 ?_
    refine lv_bipush (v := (31 : Int32)) hx hb dL_law_29 (by decide) ?_
    refine lv_iand hx hb dL_law_31 ?_
    obtain ⟨v, hv⟩ : ∃ v : Int32, v = xs (nI (3 * k)).toNatClampNeg &&& 31 := ⟨_, rfl⟩
    rw [← hv]
    rcases Decidable.em (v = (0 : Int32)) with v0 | v0
    · refine lv_tableIn (off := 116) (tgt := 148) hx hb dL_law_32 (by rw [v0]; decide) (by rw [v0]; decide) (by rw [v0]; rfl) (by decide) ?_
      obtain ⟨r, Λ', π', μ', e1, e2, hrel⟩ := hR.2.1 k Λ π μ (xs (nI (3 * k) + 1).toNatClampNeg) (xs (nI (3 * k) + 2).toNatClampNeg) hk5 hrel
      refine lv_aload_n hx hb dL_law_148 rfl (lv_at hl 1 rfl) ?_
      refine lv_aload_n hx hb dL_law_149 rfl (lv_at hl 0 rfl) ?_
      refine lv_iload_n hx hb dL_law_150 rfl (lv_at hl 3 rfl) ?_
      refine lv_iconst (v := (1 : Int32)) hx hb dL_law_151 (by decide) ?_
      refine lv_iadd hx hb dL_law_152 ?_
      refine va_sld hx hb hX hbl hbA Y.2.2 i1 dL_law_153 ?_
      refine lv_aload_n hx hb dL_law_154 rfl (lv_at hl 0 rfl) ?_
      refine lv_iload_n hx hb dL_law_155 rfl (lv_at hl 3 rfl) ?_
      refine lv_iconst (v := (2 : Int32)) hx hb dL_law_156 (by decide) ?_
      refine lv_iadd hx hb dL_law_157 ?_
      refine va_sld hx hb hX hbl hbA Y.2.2 i2 dL_law_158 ?_
      refine cg_v (it := [0, 1]) (ws2 := wW cI cS cC h g Λ' π' μ) (As := [.int (xs (nI (3 * k) + 1).toNatClampNeg), .int (xs (nI (3 * k) + 2).toNatClampNeg)]) (rest := []) S hK hA hZ Y hl.1 (mX7_set l D cI cS h Λ π (xs (nI (3 * k) + 1).toNatClampNeg) (xs (nI (3 * k) + 2).toNatClampNeg) r Λ' π' e1) (cWLC h g Λ π μ) (cWMC h g Λ π μ) nWL nWM dWL (cWLP h g Λ π μ Λ' π') nPL rfl kL_13 (T := TX7) (N := 5) rfl (q0 := 0) rfl ⟨Nat.le_of_ble_eq_true rfl, Nat.le_of_ble_eq_true rfl⟩ rfl rfl (Nat.le_of_ble_eq_true rfl) ⟨Nat.le_of_ble_eq_true rfl, Nat.le_of_ble_eq_true rfl⟩ dL_law_159 (fun H locs Y => ?_)
      refine lv_aload_n hx hb dL_law_162 rfl (lv_at hl 2 rfl) ?_
      refine lv_aload_n hx hb dL_law_163 rfl (lv_at hl 0 rfl) ?_
      refine lv_iload_n hx hb dL_law_164 rfl (lv_at hl 3 rfl) ?_
      refine lv_iconst (v := (1 : Int32)) hx hb dL_law_165 (by decide) ?_
      refine lv_iadd hx hb dL_law_166 ?_
      refine va_sld hx hb hX hbl hbA Y.2.2 i1 dL_law_167 ?_
      refine lv_aload_n hx hb dL_law_168 rfl (lv_at hl 0 rfl) ?_
      refine lv_iload_n hx hb dL_law_169 rfl (lv_at hl 3 rfl) ?_
      refine lv_iconst (v := (2 : Int32)) hx hb dL_law_170 (by decide) ?_
      refine lv_iadd hx hb dL_law_171 ?_
      refine va_sld hx hb hX hbl hbA Y.2.2 i2 dL_law_172 ?_
      refine cg_v (it := [0, 2]) (ws2 := wW cI cS cC h g Λ' π' μ') (As := [.int (xs (nI (3 * k) + 1).toNatClampNeg), .int (xs (nI (3 * k) + 2).toNatClampNeg)]) (rest := [.int r]) S hK hA hZ Y hl.1 (mX8_set l D cI cC g μ (xs (nI (3 * k) + 1).toNatClampNeg) (xs (nI (3 * k) + 2).toNatClampNeg) r μ' e2) (cWMC h g Λ' π' μ) (cWLC h g Λ' π' μ) nWM nWL dWM (cWMP h g Λ' π' μ μ') nPM rfl kL_17 (T := TX8) (N := 11) rfl (q0 := 85) rfl ⟨Nat.le_of_ble_eq_true rfl, Nat.le_of_ble_eq_true rfl⟩ rfl rfl (Nat.le_of_ble_eq_true rfl) ⟨Nat.le_of_ble_eq_true rfl, Nat.le_of_ble_eq_true rfl⟩ dL_law_173 (fun H locs Y => ?_)
      refine lv_icmp_eq (tgt := 653) hx hb dL_law_176 (by decide) (fun _ => ?_) (fun q => absurd rfl q)
      exact fin Λ' π' μ' hrel _ _ Y
    rcases Decidable.em (v = (1 : Int32)) with v1 | v1
    · refine lv_tableIn (off := 149) (tgt := 181) hx hb dL_law_32 (by rw [v1]; decide) (by rw [v1]; decide) (by rw [v1]; rfl) (by decide) ?_
      obtain ⟨r, e1, e2⟩ := hR.2.2.1 k Λ π μ (xs (nI (3 * k) + 1).toNatClampNeg) hk5 hrel
      refine lv_aload_n hx hb dL_law_181 rfl (lv_at hl 1 rfl) ?_
      refine lv_aload_n hx hb dL_law_182 rfl (lv_at hl 0 rfl) ?_
      refine lv_iload_n hx hb dL_law_183 rfl (lv_at hl 3 rfl) ?_
      refine lv_iconst (v := (1 : Int32)) hx hb dL_law_184 (by decide) ?_
      refine lv_iadd hx hb dL_law_185 ?_
      refine va_sld hx hb hX hbl hbA Y.2.2 i1 dL_law_186 ?_
      refine cg_v (it := [0, 1]) (ws2 := wW cI cS cC h g Λ π μ) (As := [.int (xs (nI (3 * k) + 1).toNatClampNeg)]) (rest := []) S hK hA hZ Y hl.1 (mX7_setting l D cI cS h Λ π (xs (nI (3 * k) + 1).toNatClampNeg) r e1) (cWLC h g Λ π μ) (cWMC h g Λ π μ) nWL nWM dWL (cWLP h g Λ π μ Λ π) nPL rfl kL_18 (T := TX7) (N := 5) rfl (q0 := 0) rfl ⟨Nat.le_of_ble_eq_true rfl, Nat.le_of_ble_eq_true rfl⟩ rfl rfl (Nat.le_of_ble_eq_true rfl) ⟨Nat.le_of_ble_eq_true rfl, Nat.le_of_ble_eq_true rfl⟩ dL_law_187 (fun H locs Y => ?_)
      refine lv_aload_n hx hb dL_law_190 rfl (lv_at hl 2 rfl) ?_
      refine lv_aload_n hx hb dL_law_191 rfl (lv_at hl 0 rfl) ?_
      refine lv_iload_n hx hb dL_law_192 rfl (lv_at hl 3 rfl) ?_
      refine lv_iconst (v := (1 : Int32)) hx hb dL_law_193 (by decide) ?_
      refine lv_iadd hx hb dL_law_194 ?_
      refine va_sld hx hb hX hbl hbA Y.2.2 i1 dL_law_195 ?_
      refine cg_v (it := [0, 2]) (ws2 := wW cI cS cC h g Λ π μ) (As := [.int (xs (nI (3 * k) + 1).toNatClampNeg)]) (rest := [.int r]) S hK hA hZ Y hl.1 (mX8_setting l D cI cC g μ (xs (nI (3 * k) + 1).toNatClampNeg) r e2) (cWMC h g Λ π μ) (cWLC h g Λ π μ) nWM nWL dWM (cWMP h g Λ π μ μ) nPM rfl kL_22 (T := TX8) (N := 11) rfl (q0 := 85) rfl ⟨Nat.le_of_ble_eq_true rfl, Nat.le_of_ble_eq_true rfl⟩ rfl rfl (Nat.le_of_ble_eq_true rfl) ⟨Nat.le_of_ble_eq_true rfl, Nat.le_of_ble_eq_true rfl⟩ dL_law_196 (fun H locs Y => ?_)
      refine lv_icmp_eq (tgt := 653) hx hb dL_law_199 (by decide) (fun _ => ?_) (fun q => absurd rfl q)
      exact fin Λ π μ (hR.1 _ _ _ _ hrel) _ _ Y
    rcases Decidable.em (v = (2 : Int32)) with v2 | v2
    · refine lv_tableIn (off := 172) (tgt := 204) hx hb dL_law_32 (by rw [v2]; decide) (by rw [v2]; decide) (by rw [v2]; rfl) (by decide) ?_
      obtain ⟨r, Λ', π', μ', e1, e2, hrel⟩ := hR.2.2.2.1 k Λ π μ hk5 hrel
      refine lv_aload_n hx hb dL_law_204 rfl (lv_at hl 1 rfl) ?_
      refine cg_v (it := [0, 1]) (ws2 := wW cI cS cC h g Λ' π' μ) (As := []) (rest := []) S hK hA hZ Y hl.1 (mX7_join l D cI cS h Λ π r Λ' π' e1) (cWLC h g Λ π μ) (cWMC h g Λ π μ) nWL nWM dWL (cWLP h g Λ π μ Λ' π') nPL rfl kL_23 (T := TX7) (N := 5) rfl (q0 := 0) rfl ⟨Nat.le_of_ble_eq_true rfl, Nat.le_of_ble_eq_true rfl⟩ rfl rfl (Nat.le_of_ble_eq_true rfl) ⟨Nat.le_of_ble_eq_true rfl, Nat.le_of_ble_eq_true rfl⟩ dL_law_205 (fun H locs Y => ?_)
      refine lv_aload_n hx hb dL_law_208 rfl (lv_at hl 2 rfl) ?_
      refine cg_v (it := [0, 2]) (ws2 := wW cI cS cC h g Λ' π' μ') (As := []) (rest := [.int r]) S hK hA hZ Y hl.1 (mX8_join l D cI cC g μ r μ' e2) (cWMC h g Λ' π' μ) (cWLC h g Λ' π' μ) nWM nWL dWM (cWMP h g Λ' π' μ μ') nPM rfl kL_27 (T := TX8) (N := 11) rfl (q0 := 85) rfl ⟨Nat.le_of_ble_eq_true rfl, Nat.le_of_ble_eq_true rfl⟩ rfl rfl (Nat.le_of_ble_eq_true rfl) ⟨Nat.le_of_ble_eq_true rfl, Nat.le_of_ble_eq_true rfl⟩ dL_law_209 (fun H locs Y => ?_)
      refine lv_icmp_eq (tgt := 653) hx hb dL_law_212 (by decide) (fun _ => ?_) (fun q => absurd rfl q)
      exact fin Λ' π' μ' hrel _ _ Y
    rcases Decidable.em (v = (3 : Int32)) with v3 | v3
    · refine lv_tableIn (off := 185) (tgt := 217) hx hb dL_law_32 (by rw [v3]; decide) (by rw [v3]; decide) (by rw [v3]; rfl) (by decide) ?_
      obtain ⟨r, Λ', π', μ', e1, e2, hrel⟩ := hR.2.2.2.2.1 k Λ π μ (xs (nI (3 * k) + 1).toNatClampNeg) (xs (nI (3 * k) + 2).toNatClampNeg) hk5 hrel
      refine lv_aload_n hx hb dL_law_217 rfl (lv_at hl 1 rfl) ?_
      refine lv_aload_n hx hb dL_law_218 rfl (lv_at hl 0 rfl) ?_
      refine lv_iload_n hx hb dL_law_219 rfl (lv_at hl 3 rfl) ?_
      refine lv_iconst (v := (1 : Int32)) hx hb dL_law_220 (by decide) ?_
      refine lv_iadd hx hb dL_law_221 ?_
      refine va_sld hx hb hX hbl hbA Y.2.2 i1 dL_law_222 ?_
      refine lv_aload_n hx hb dL_law_223 rfl (lv_at hl 0 rfl) ?_
      refine lv_iload_n hx hb dL_law_224 rfl (lv_at hl 3 rfl) ?_
      refine lv_iconst (v := (2 : Int32)) hx hb dL_law_225 (by decide) ?_
      refine lv_iadd hx hb dL_law_226 ?_
      refine va_sld hx hb hX hbl hbA Y.2.2 i2 dL_law_227 ?_
      refine cg_v (it := [0, 1]) (ws2 := wW cI cS cC h g Λ' π' μ) (As := [.int (xs (nI (3 * k) + 1).toNatClampNeg), .int (xs (nI (3 * k) + 2).toNatClampNeg)]) (rest := []) S hK hA hZ Y hl.1 (mX7_start l D cI cS h Λ π (xs (nI (3 * k) + 1).toNatClampNeg) (xs (nI (3 * k) + 2).toNatClampNeg) r Λ' π' e1) (cWLC h g Λ π μ) (cWMC h g Λ π μ) nWL nWM dWL (cWLP h g Λ π μ Λ' π') nPL rfl kL_28 (T := TX7) (N := 5) rfl (q0 := 0) rfl ⟨Nat.le_of_ble_eq_true rfl, Nat.le_of_ble_eq_true rfl⟩ rfl rfl (Nat.le_of_ble_eq_true rfl) ⟨Nat.le_of_ble_eq_true rfl, Nat.le_of_ble_eq_true rfl⟩ dL_law_228 (fun H locs Y => ?_)
      refine lv_aload_n hx hb dL_law_231 rfl (lv_at hl 2 rfl) ?_
      refine lv_aload_n hx hb dL_law_232 rfl (lv_at hl 0 rfl) ?_
      refine lv_iload_n hx hb dL_law_233 rfl (lv_at hl 3 rfl) ?_
      refine lv_iconst (v := (1 : Int32)) hx hb dL_law_234 (by decide) ?_
      refine lv_iadd hx hb dL_law_235 ?_
      refine va_sld hx hb hX hbl hbA Y.2.2 i1 dL_law_236 ?_
      refine lv_aload_n hx hb dL_law_237 rfl (lv_at hl 0 rfl) ?_
      refine lv_iload_n hx hb dL_law_238 rfl (lv_at hl 3 rfl) ?_
      refine lv_iconst (v := (2 : Int32)) hx hb dL_law_239 (by decide) ?_
      refine lv_iadd hx hb dL_law_240 ?_
      refine va_sld hx hb hX hbl hbA Y.2.2 i2 dL_law_241 ?_
      refine cg_v (it := [0, 2]) (ws2 := wW cI cS cC h g Λ' π' μ') (As := [.int (xs (nI (3 * k) + 1).toNatClampNeg), .int (xs (nI (3 * k) + 2).toNatClampNeg)]) (rest := [.int r]) S hK hA hZ Y hl.1 (mX8_start l D cI cC g μ (xs (nI (3 * k) + 1).toNatClampNeg) (xs (nI (3 * k) + 2).toNatClampNeg) r μ' e2) (cWMC h g Λ' π' μ) (cWLC h g Λ' π' μ) nWM nWL dWM (cWMP h g Λ' π' μ μ') nPM rfl kL_31 (T := TX8) (N := 11) rfl (q0 := 85) rfl ⟨Nat.le_of_ble_eq_true rfl, Nat.le_of_ble_eq_true rfl⟩ rfl rfl (Nat.le_of_ble_eq_true rfl) ⟨Nat.le_of_ble_eq_true rfl, Nat.le_of_ble_eq_true rfl⟩ dL_law_242 (fun H locs Y => ?_)
      refine lv_icmp_eq (tgt := 653) hx hb dL_law_245 (by decide) (fun _ => ?_) (fun q => absurd rfl q)
      exact fin Λ' π' μ' hrel _ _ Y
    rcases Decidable.em (v = (4 : Int32)) with v4 | v4
    · refine lv_tableIn (off := 218) (tgt := 250) hx hb dL_law_32 (by rw [v4]; decide) (by rw [v4]; decide) (by rw [v4]; rfl) (by decide) ?_
      obtain ⟨r, Λ', π', μ', e1, e2, hrel⟩ := hR.2.2.2.2.2.1 k Λ π μ (xs (nI (3 * k) + 1).toNatClampNeg) (xs (nI (3 * k) + 2).toNatClampNeg) hk5 hrel
      refine lv_aload_n hx hb dL_law_250 rfl (lv_at hl 1 rfl) ?_
      refine lv_aload_n hx hb dL_law_251 rfl (lv_at hl 0 rfl) ?_
      refine lv_iload_n hx hb dL_law_252 rfl (lv_at hl 3 rfl) ?_
      refine lv_iconst (v := (1 : Int32)) hx hb dL_law_253 (by decide) ?_
      refine lv_iadd hx hb dL_law_254 ?_
      refine va_sld hx hb hX hbl hbA Y.2.2 i1 dL_law_255 ?_
      refine lv_aload_n hx hb dL_law_256 rfl (lv_at hl 0 rfl) ?_
      refine lv_iload_n hx hb dL_law_257 rfl (lv_at hl 3 rfl) ?_
      refine lv_iconst (v := (2 : Int32)) hx hb dL_law_258 (by decide) ?_
      refine lv_iadd hx hb dL_law_259 ?_
      refine va_sld hx hb hX hbl hbA Y.2.2 i2 dL_law_260 ?_
      refine cg_v (it := [0, 1]) (ws2 := wW cI cS cC h g Λ' π' μ) (As := [.int (xs (nI (3 * k) + 1).toNatClampNeg), .int (xs (nI (3 * k) + 2).toNatClampNeg)]) (rest := []) S hK hA hZ Y hl.1 (mX7_hide l D cI cS h Λ π (xs (nI (3 * k) + 1).toNatClampNeg) (xs (nI (3 * k) + 2).toNatClampNeg) r Λ' π' e1) (cWLC h g Λ π μ) (cWMC h g Λ π μ) nWL nWM dWL (cWLP h g Λ π μ Λ' π') nPL rfl kL_32 (T := TX7) (N := 5) rfl (q0 := 0) rfl ⟨Nat.le_of_ble_eq_true rfl, Nat.le_of_ble_eq_true rfl⟩ rfl rfl (Nat.le_of_ble_eq_true rfl) ⟨Nat.le_of_ble_eq_true rfl, Nat.le_of_ble_eq_true rfl⟩ dL_law_261 (fun H locs Y => ?_)
      refine lv_aload_n hx hb dL_law_264 rfl (lv_at hl 2 rfl) ?_
      refine lv_aload_n hx hb dL_law_265 rfl (lv_at hl 0 rfl) ?_
      refine lv_iload_n hx hb dL_law_266 rfl (lv_at hl 3 rfl) ?_
      refine lv_iconst (v := (1 : Int32)) hx hb dL_law_267 (by decide) ?_
      refine lv_iadd hx hb dL_law_268 ?_
      refine va_sld hx hb hX hbl hbA Y.2.2 i1 dL_law_269 ?_
      refine lv_aload_n hx hb dL_law_270 rfl (lv_at hl 0 rfl) ?_
      refine lv_iload_n hx hb dL_law_271 rfl (lv_at hl 3 rfl) ?_
      refine lv_iconst (v := (2 : Int32)) hx hb dL_law_272 (by decide) ?_
      refine lv_iadd hx hb dL_law_273 ?_
      refine va_sld hx hb hX hbl hbA Y.2.2 i2 dL_law_274 ?_
      refine cg_v (it := [0, 2]) (ws2 := wW cI cS cC h g Λ' π' μ') (As := [.int (xs (nI (3 * k) + 1).toNatClampNeg), .int (xs (nI (3 * k) + 2).toNatClampNeg)]) (rest := [.int r]) S hK hA hZ Y hl.1 (mX8_hide l D cI cC g μ (xs (nI (3 * k) + 1).toNatClampNeg) (xs (nI (3 * k) + 2).toNatClampNeg) r μ' e2) (cWMC h g Λ' π' μ) (cWLC h g Λ' π' μ) nWM nWL dWM (cWMP h g Λ' π' μ μ') nPM rfl kL_35 (T := TX8) (N := 11) rfl (q0 := 85) rfl ⟨Nat.le_of_ble_eq_true rfl, Nat.le_of_ble_eq_true rfl⟩ rfl rfl (Nat.le_of_ble_eq_true rfl) ⟨Nat.le_of_ble_eq_true rfl, Nat.le_of_ble_eq_true rfl⟩ dL_law_275 (fun H locs Y => ?_)
      refine lv_icmp_eq (tgt := 653) hx hb dL_law_278 (by decide) (fun _ => ?_) (fun q => absurd rfl q)
      exact fin Λ' π' μ' hrel _ _ Y
    rcases Decidable.em (v = (5 : Int32)) with v5 | v5
    · refine lv_tableIn (off := 251) (tgt := 283) hx hb dL_law_32 (by rw [v5]; decide) (by rw [v5]; decide) (by rw [v5]; rfl) (by decide) ?_
      obtain ⟨r, Λ', π', μ', e1, e2, hrel⟩ := hR.2.2.2.2.2.2.1 k Λ π μ hk5 hrel
      refine lv_aload_n hx hb dL_law_283 rfl (lv_at hl 1 rfl) ?_
      refine cg_v (it := [0, 1]) (ws2 := wW cI cS cC h g Λ' π' μ) (As := []) (rest := []) S hK hA hZ Y hl.1 (mX7_seek l D cI cS h Λ π r Λ' π' e1) (cWLC h g Λ π μ) (cWMC h g Λ π μ) nWL nWM dWL (cWLP h g Λ π μ Λ' π') nPL rfl kL_36 (T := TX7) (N := 5) rfl (q0 := 0) rfl ⟨Nat.le_of_ble_eq_true rfl, Nat.le_of_ble_eq_true rfl⟩ rfl rfl (Nat.le_of_ble_eq_true rfl) ⟨Nat.le_of_ble_eq_true rfl, Nat.le_of_ble_eq_true rfl⟩ dL_law_284 (fun H locs Y => ?_)
      refine lv_aload_n hx hb dL_law_287 rfl (lv_at hl 2 rfl) ?_
      refine cg_v (it := [0, 2]) (ws2 := wW cI cS cC h g Λ' π' μ') (As := []) (rest := [.int r]) S hK hA hZ Y hl.1 (mX8_seek l D cI cC g μ r μ' e2) (cWMC h g Λ' π' μ) (cWLC h g Λ' π' μ) nWM nWL dWM (cWMP h g Λ' π' μ μ') nPM rfl kL_39 (T := TX8) (N := 11) rfl (q0 := 85) rfl ⟨Nat.le_of_ble_eq_true rfl, Nat.le_of_ble_eq_true rfl⟩ rfl rfl (Nat.le_of_ble_eq_true rfl) ⟨Nat.le_of_ble_eq_true rfl, Nat.le_of_ble_eq_true rfl⟩ dL_law_288 (fun H locs Y => ?_)
      refine lv_icmp_eq (tgt := 653) hx hb dL_law_291 (by decide) (fun _ => ?_) (fun q => absurd rfl q)
      exact fin Λ' π' μ' hrel _ _ Y
    rcases Decidable.em (v = (6 : Int32)) with v6 | v6
    · refine lv_tableIn (off := 264) (tgt := 296) hx hb dL_law_32 (by rw [v6]; decide) (by rw [v6]; decide) (by rw [v6]; rfl) (by decide) ?_
      obtain ⟨r, Λ', π', μ', e1, e2, hrel⟩ := hR.2.2.2.2.2.2.2.1 k Λ π μ (xs (nI (3 * k) + 1).toNatClampNeg) hk5 hrel
      refine lv_aload_n hx hb dL_law_296 rfl (lv_at hl 1 rfl) ?_
      refine lv_aload_n hx hb dL_law_297 rfl (lv_at hl 0 rfl) ?_
      refine lv_iload_n hx hb dL_law_298 rfl (lv_at hl 3 rfl) ?_
      refine lv_iconst (v := (1 : Int32)) hx hb dL_law_299 (by decide) ?_
      refine lv_iadd hx hb dL_law_300 ?_
      refine va_sld hx hb hX hbl hbA Y.2.2 i1 dL_law_301 ?_
      refine cg_v (it := [0, 1]) (ws2 := wW cI cS cC h g Λ' π' μ) (As := [.int (xs (nI (3 * k) + 1).toNatClampNeg)]) (rest := []) S hK hA hZ Y hl.1 (mX7_walk l D cI cS h Λ π (xs (nI (3 * k) + 1).toNatClampNeg) r Λ' π' e1) (cWLC h g Λ π μ) (cWMC h g Λ π μ) nWL nWM dWL (cWLP h g Λ π μ Λ' π') nPL rfl kL_40 (T := TX7) (N := 5) rfl (q0 := 0) rfl ⟨Nat.le_of_ble_eq_true rfl, Nat.le_of_ble_eq_true rfl⟩ rfl rfl (Nat.le_of_ble_eq_true rfl) ⟨Nat.le_of_ble_eq_true rfl, Nat.le_of_ble_eq_true rfl⟩ dL_law_302 (fun H locs Y => ?_)
      refine lv_aload_n hx hb dL_law_305 rfl (lv_at hl 2 rfl) ?_
      refine lv_aload_n hx hb dL_law_306 rfl (lv_at hl 0 rfl) ?_
      refine lv_iload_n hx hb dL_law_307 rfl (lv_at hl 3 rfl) ?_
      refine lv_iconst (v := (1 : Int32)) hx hb dL_law_308 (by decide) ?_
      refine lv_iadd hx hb dL_law_309 ?_
      refine va_sld hx hb hX hbl hbA Y.2.2 i1 dL_law_310 ?_
      refine cg_v (it := [0, 2]) (ws2 := wW cI cS cC h g Λ' π' μ') (As := [.int (xs (nI (3 * k) + 1).toNatClampNeg)]) (rest := [.int r]) S hK hA hZ Y hl.1 (mX8_walk l D cI cC g μ (xs (nI (3 * k) + 1).toNatClampNeg) r μ' e2) (cWMC h g Λ' π' μ) (cWLC h g Λ' π' μ) nWM nWL dWM (cWMP h g Λ' π' μ μ') nPM rfl kL_43 (T := TX8) (N := 11) rfl (q0 := 85) rfl ⟨Nat.le_of_ble_eq_true rfl, Nat.le_of_ble_eq_true rfl⟩ rfl rfl (Nat.le_of_ble_eq_true rfl) ⟨Nat.le_of_ble_eq_true rfl, Nat.le_of_ble_eq_true rfl⟩ dL_law_311 (fun H locs Y => ?_)
      refine lv_icmp_eq (tgt := 653) hx hb dL_law_314 (by decide) (fun _ => ?_) (fun q => absurd rfl q)
      exact fin Λ' π' μ' hrel _ _ Y
    rcases Decidable.em (v = (7 : Int32)) with v7 | v7
    · refine lv_tableIn (off := 287) (tgt := 319) hx hb dL_law_32 (by rw [v7]; decide) (by rw [v7]; decide) (by rw [v7]; rfl) (by decide) ?_
      obtain ⟨r, Λ', π', μ', e1, e2, hrel⟩ := hR.2.2.2.2.2.2.2.2.1 k Λ π μ (xs (nI (3 * k) + 1).toNatClampNeg) (xs (nI (3 * k) + 2).toNatClampNeg) hk5 hrel
      refine lv_aload_n hx hb dL_law_319 rfl (lv_at hl 1 rfl) ?_
      refine lv_aload_n hx hb dL_law_320 rfl (lv_at hl 0 rfl) ?_
      refine lv_iload_n hx hb dL_law_321 rfl (lv_at hl 3 rfl) ?_
      refine lv_iconst (v := (1 : Int32)) hx hb dL_law_322 (by decide) ?_
      refine lv_iadd hx hb dL_law_323 ?_
      refine va_sld hx hb hX hbl hbA Y.2.2 i1 dL_law_324 ?_
      refine lv_aload_n hx hb dL_law_325 rfl (lv_at hl 0 rfl) ?_
      refine lv_iload_n hx hb dL_law_326 rfl (lv_at hl 3 rfl) ?_
      refine lv_iconst (v := (2 : Int32)) hx hb dL_law_327 (by decide) ?_
      refine lv_iadd hx hb dL_law_328 ?_
      refine va_sld hx hb hX hbl hbA Y.2.2 i2 dL_law_329 ?_
      refine cg_v (it := [0, 1]) (ws2 := wW cI cS cC h g Λ' π' μ) (As := [.int (xs (nI (3 * k) + 1).toNatClampNeg), .int (xs (nI (3 * k) + 2).toNatClampNeg)]) (rest := []) S hK hA hZ Y hl.1 (mX7_cry l D cI cS h Λ π (xs (nI (3 * k) + 1).toNatClampNeg) (xs (nI (3 * k) + 2).toNatClampNeg) r Λ' π' e1) (cWLC h g Λ π μ) (cWMC h g Λ π μ) nWL nWM dWL (cWLP h g Λ π μ Λ' π') nPL rfl kL_44 (T := TX7) (N := 5) rfl (q0 := 0) rfl ⟨Nat.le_of_ble_eq_true rfl, Nat.le_of_ble_eq_true rfl⟩ rfl rfl (Nat.le_of_ble_eq_true rfl) ⟨Nat.le_of_ble_eq_true rfl, Nat.le_of_ble_eq_true rfl⟩ dL_law_330 (fun H locs Y => ?_)
      refine lv_aload_n hx hb dL_law_333 rfl (lv_at hl 2 rfl) ?_
      refine lv_aload_n hx hb dL_law_334 rfl (lv_at hl 0 rfl) ?_
      refine lv_iload_n hx hb dL_law_335 rfl (lv_at hl 3 rfl) ?_
      refine lv_iconst (v := (1 : Int32)) hx hb dL_law_336 (by decide) ?_
      refine lv_iadd hx hb dL_law_337 ?_
      refine va_sld hx hb hX hbl hbA Y.2.2 i1 dL_law_338 ?_
      refine lv_aload_n hx hb dL_law_339 rfl (lv_at hl 0 rfl) ?_
      refine lv_iload_n hx hb dL_law_340 rfl (lv_at hl 3 rfl) ?_
      refine lv_iconst (v := (2 : Int32)) hx hb dL_law_341 (by decide) ?_
      refine lv_iadd hx hb dL_law_342 ?_
      refine va_sld hx hb hX hbl hbA Y.2.2 i2 dL_law_343 ?_
      refine cg_v (it := [0, 2]) (ws2 := wW cI cS cC h g Λ' π' μ') (As := [.int (xs (nI (3 * k) + 1).toNatClampNeg), .int (xs (nI (3 * k) + 2).toNatClampNeg)]) (rest := [.int r]) S hK hA hZ Y hl.1 (mX8_cry l D cI cC g μ (xs (nI (3 * k) + 1).toNatClampNeg) (xs (nI (3 * k) + 2).toNatClampNeg) r μ' e2) (cWMC h g Λ' π' μ) (cWLC h g Λ' π' μ) nWM nWL dWM (cWMP h g Λ' π' μ μ') nPM rfl kL_47 (T := TX8) (N := 11) rfl (q0 := 85) rfl ⟨Nat.le_of_ble_eq_true rfl, Nat.le_of_ble_eq_true rfl⟩ rfl rfl (Nat.le_of_ble_eq_true rfl) ⟨Nat.le_of_ble_eq_true rfl, Nat.le_of_ble_eq_true rfl⟩ dL_law_344 (fun H locs Y => ?_)
      refine lv_icmp_eq (tgt := 653) hx hb dL_law_347 (by decide) (fun _ => ?_) (fun q => absurd rfl q)
      exact fin Λ' π' μ' hrel _ _ Y
    rcases Decidable.em (v = (8 : Int32)) with v8 | v8
    · refine lv_tableIn (off := 320) (tgt := 352) hx hb dL_law_32 (by rw [v8]; decide) (by rw [v8]; decide) (by rw [v8]; rfl) (by decide) ?_
      obtain ⟨r, Λ', π', μ', e1, e2, hrel⟩ := hR.2.2.2.2.2.2.2.2.2.1 k Λ π μ (xs (nI (3 * k) + 1).toNatClampNeg) hk5 hrel
      refine lv_aload_n hx hb dL_law_352 rfl (lv_at hl 1 rfl) ?_
      refine lv_aload_n hx hb dL_law_353 rfl (lv_at hl 0 rfl) ?_
      refine lv_iload_n hx hb dL_law_354 rfl (lv_at hl 3 rfl) ?_
      refine lv_iconst (v := (1 : Int32)) hx hb dL_law_355 (by decide) ?_
      refine lv_iadd hx hb dL_law_356 ?_
      refine va_sld hx hb hX hbl hbA Y.2.2 i1 dL_law_357 ?_
      refine cg_v (it := [0, 1]) (ws2 := wW cI cS cC h g Λ' π' μ) (As := [.int (xs (nI (3 * k) + 1).toNatClampNeg)]) (rest := []) S hK hA hZ Y hl.1 (mX7_dash l D cI cS h Λ π (xs (nI (3 * k) + 1).toNatClampNeg) r Λ' π' e1) (cWLC h g Λ π μ) (cWMC h g Λ π μ) nWL nWM dWL (cWLP h g Λ π μ Λ' π') nPL rfl kL_48 (T := TX7) (N := 5) rfl (q0 := 0) rfl ⟨Nat.le_of_ble_eq_true rfl, Nat.le_of_ble_eq_true rfl⟩ rfl rfl (Nat.le_of_ble_eq_true rfl) ⟨Nat.le_of_ble_eq_true rfl, Nat.le_of_ble_eq_true rfl⟩ dL_law_358 (fun H locs Y => ?_)
      refine lv_aload_n hx hb dL_law_361 rfl (lv_at hl 2 rfl) ?_
      refine lv_aload_n hx hb dL_law_362 rfl (lv_at hl 0 rfl) ?_
      refine lv_iload_n hx hb dL_law_363 rfl (lv_at hl 3 rfl) ?_
      refine lv_iconst (v := (1 : Int32)) hx hb dL_law_364 (by decide) ?_
      refine lv_iadd hx hb dL_law_365 ?_
      refine va_sld hx hb hX hbl hbA Y.2.2 i1 dL_law_366 ?_
      refine cg_v (it := [0, 2]) (ws2 := wW cI cS cC h g Λ' π' μ') (As := [.int (xs (nI (3 * k) + 1).toNatClampNeg)]) (rest := [.int r]) S hK hA hZ Y hl.1 (mX8_dash l D cI cC g μ (xs (nI (3 * k) + 1).toNatClampNeg) r μ' e2) (cWMC h g Λ' π' μ) (cWLC h g Λ' π' μ) nWM nWL dWM (cWMP h g Λ' π' μ μ') nPM rfl kL_51 (T := TX8) (N := 11) rfl (q0 := 85) rfl ⟨Nat.le_of_ble_eq_true rfl, Nat.le_of_ble_eq_true rfl⟩ rfl rfl (Nat.le_of_ble_eq_true rfl) ⟨Nat.le_of_ble_eq_true rfl, Nat.le_of_ble_eq_true rfl⟩ dL_law_367 (fun H locs Y => ?_)
      refine lv_icmp_eq (tgt := 653) hx hb dL_law_370 (by decide) (fun _ => ?_) (fun q => absurd rfl q)
      exact fin Λ' π' μ' hrel _ _ Y
    rcases Decidable.em (v = (9 : Int32)) with v9 | v9
    · refine lv_tableIn (off := 343) (tgt := 375) hx hb dL_law_32 (by rw [v9]; decide) (by rw [v9]; decide) (by rw [v9]; rfl) (by decide) ?_
      obtain ⟨r, e1, e2⟩ := hR.2.2.2.2.2.2.2.2.2.2.1 k Λ π μ (xs (nI (3 * k) + 1).toNatClampNeg) (xs (nI (3 * k) + 2).toNatClampNeg) hk5 hrel
      refine lv_aload_n hx hb dL_law_375 rfl (lv_at hl 1 rfl) ?_
      refine lv_aload_n hx hb dL_law_376 rfl (lv_at hl 0 rfl) ?_
      refine lv_iload_n hx hb dL_law_377 rfl (lv_at hl 3 rfl) ?_
      refine lv_iconst (v := (1 : Int32)) hx hb dL_law_378 (by decide) ?_
      refine lv_iadd hx hb dL_law_379 ?_
      refine va_sld hx hb hX hbl hbA Y.2.2 i1 dL_law_380 ?_
      refine lv_aload_n hx hb dL_law_381 rfl (lv_at hl 0 rfl) ?_
      refine lv_iload_n hx hb dL_law_382 rfl (lv_at hl 3 rfl) ?_
      refine lv_iconst (v := (2 : Int32)) hx hb dL_law_383 (by decide) ?_
      refine lv_iadd hx hb dL_law_384 ?_
      refine va_sld hx hb hX hbl hbA Y.2.2 i2 dL_law_385 ?_
      refine cg_v (it := [0, 1]) (ws2 := wW cI cS cC h g Λ π μ) (As := [.int (xs (nI (3 * k) + 1).toNatClampNeg), .int (xs (nI (3 * k) + 2).toNatClampNeg)]) (rest := []) S hK hA hZ Y hl.1 (mX7_player l D cI cS h Λ π (xs (nI (3 * k) + 1).toNatClampNeg) (xs (nI (3 * k) + 2).toNatClampNeg) r e1) (cWLC h g Λ π μ) (cWMC h g Λ π μ) nWL nWM dWL (cWLP h g Λ π μ Λ π) nPL rfl kL_52 (T := TX7) (N := 5) rfl (q0 := 0) rfl ⟨Nat.le_of_ble_eq_true rfl, Nat.le_of_ble_eq_true rfl⟩ rfl rfl (Nat.le_of_ble_eq_true rfl) ⟨Nat.le_of_ble_eq_true rfl, Nat.le_of_ble_eq_true rfl⟩ dL_law_386 (fun H locs Y => ?_)
      refine lv_aload_n hx hb dL_law_389 rfl (lv_at hl 2 rfl) ?_
      refine lv_aload_n hx hb dL_law_390 rfl (lv_at hl 0 rfl) ?_
      refine lv_iload_n hx hb dL_law_391 rfl (lv_at hl 3 rfl) ?_
      refine lv_iconst (v := (1 : Int32)) hx hb dL_law_392 (by decide) ?_
      refine lv_iadd hx hb dL_law_393 ?_
      refine va_sld hx hb hX hbl hbA Y.2.2 i1 dL_law_394 ?_
      refine lv_aload_n hx hb dL_law_395 rfl (lv_at hl 0 rfl) ?_
      refine lv_iload_n hx hb dL_law_396 rfl (lv_at hl 3 rfl) ?_
      refine lv_iconst (v := (2 : Int32)) hx hb dL_law_397 (by decide) ?_
      refine lv_iadd hx hb dL_law_398 ?_
      refine va_sld hx hb hX hbl hbA Y.2.2 i2 dL_law_399 ?_
      refine cg_v (it := [0, 2]) (ws2 := wW cI cS cC h g Λ π μ) (As := [.int (xs (nI (3 * k) + 1).toNatClampNeg), .int (xs (nI (3 * k) + 2).toNatClampNeg)]) (rest := [.int r]) S hK hA hZ Y hl.1 (mX8_player l D cI cC g μ (xs (nI (3 * k) + 1).toNatClampNeg) (xs (nI (3 * k) + 2).toNatClampNeg) r e2) (cWMC h g Λ π μ) (cWLC h g Λ π μ) nWM nWL dWM (cWMP h g Λ π μ μ) nPM rfl kL_55 (T := TX8) (N := 11) rfl (q0 := 85) rfl ⟨Nat.le_of_ble_eq_true rfl, Nat.le_of_ble_eq_true rfl⟩ rfl rfl (Nat.le_of_ble_eq_true rfl) ⟨Nat.le_of_ble_eq_true rfl, Nat.le_of_ble_eq_true rfl⟩ dL_law_400 (fun H locs Y => ?_)
      refine lv_icmp_eq (tgt := 653) hx hb dL_law_403 (by decide) (fun _ => ?_) (fun q => absurd rfl q)
      exact fin Λ π μ (hR.1 _ _ _ _ hrel) _ _ Y
    rcases Decidable.em (v = (10 : Int32)) with v10 | v10
    · refine lv_tableIn (off := 376) (tgt := 408) hx hb dL_law_32 (by rw [v10]; decide) (by rw [v10]; decide) (by rw [v10]; rfl) (by decide) ?_
      obtain ⟨r, e1, e2⟩ := hR.2.2.2.2.2.2.2.2.2.2.2.1 k Λ π μ (xs (nI (3 * k) + 1).toNatClampNeg) (xs (nI (3 * k) + 2).toNatClampNeg) hk5 hrel
      refine lv_aload_n hx hb dL_law_408 rfl (lv_at hl 1 rfl) ?_
      refine lv_aload_n hx hb dL_law_409 rfl (lv_at hl 0 rfl) ?_
      refine lv_iload_n hx hb dL_law_410 rfl (lv_at hl 3 rfl) ?_
      refine lv_iconst (v := (1 : Int32)) hx hb dL_law_411 (by decide) ?_
      refine lv_iadd hx hb dL_law_412 ?_
      refine va_sld hx hb hX hbl hbA Y.2.2 i1 dL_law_413 ?_
      refine lv_aload_n hx hb dL_law_414 rfl (lv_at hl 0 rfl) ?_
      refine lv_iload_n hx hb dL_law_415 rfl (lv_at hl 3 rfl) ?_
      refine lv_iconst (v := (2 : Int32)) hx hb dL_law_416 (by decide) ?_
      refine lv_iadd hx hb dL_law_417 ?_
      refine va_sld hx hb hX hbl hbA Y.2.2 i2 dL_law_418 ?_
      refine cg_v (it := [0, 1]) (ws2 := wW cI cS cC h g Λ π μ) (As := [.int (xs (nI (3 * k) + 1).toNatClampNeg), .int (xs (nI (3 * k) + 2).toNatClampNeg)]) (rest := []) S hK hA hZ Y hl.1 (mX7_spot l D cI cS h Λ π (xs (nI (3 * k) + 1).toNatClampNeg) (xs (nI (3 * k) + 2).toNatClampNeg) r e1) (cWLC h g Λ π μ) (cWMC h g Λ π μ) nWL nWM dWL (cWLP h g Λ π μ Λ π) nPL rfl kL_56 (T := TX7) (N := 5) rfl (q0 := 0) rfl ⟨Nat.le_of_ble_eq_true rfl, Nat.le_of_ble_eq_true rfl⟩ rfl rfl (Nat.le_of_ble_eq_true rfl) ⟨Nat.le_of_ble_eq_true rfl, Nat.le_of_ble_eq_true rfl⟩ dL_law_419 (fun H locs Y => ?_)
      refine lv_aload_n hx hb dL_law_422 rfl (lv_at hl 2 rfl) ?_
      refine lv_aload_n hx hb dL_law_423 rfl (lv_at hl 0 rfl) ?_
      refine lv_iload_n hx hb dL_law_424 rfl (lv_at hl 3 rfl) ?_
      refine lv_iconst (v := (1 : Int32)) hx hb dL_law_425 (by decide) ?_
      refine lv_iadd hx hb dL_law_426 ?_
      refine va_sld hx hb hX hbl hbA Y.2.2 i1 dL_law_427 ?_
      refine lv_aload_n hx hb dL_law_428 rfl (lv_at hl 0 rfl) ?_
      refine lv_iload_n hx hb dL_law_429 rfl (lv_at hl 3 rfl) ?_
      refine lv_iconst (v := (2 : Int32)) hx hb dL_law_430 (by decide) ?_
      refine lv_iadd hx hb dL_law_431 ?_
      refine va_sld hx hb hX hbl hbA Y.2.2 i2 dL_law_432 ?_
      refine cg_v (it := [0, 2]) (ws2 := wW cI cS cC h g Λ π μ) (As := [.int (xs (nI (3 * k) + 1).toNatClampNeg), .int (xs (nI (3 * k) + 2).toNatClampNeg)]) (rest := [.int r]) S hK hA hZ Y hl.1 (mX8_spot l D cI cC g μ (xs (nI (3 * k) + 1).toNatClampNeg) (xs (nI (3 * k) + 2).toNatClampNeg) r e2) (cWMC h g Λ π μ) (cWLC h g Λ π μ) nWM nWL dWM (cWMP h g Λ π μ μ) nPM rfl kL_59 (T := TX8) (N := 11) rfl (q0 := 85) rfl ⟨Nat.le_of_ble_eq_true rfl, Nat.le_of_ble_eq_true rfl⟩ rfl rfl (Nat.le_of_ble_eq_true rfl) ⟨Nat.le_of_ble_eq_true rfl, Nat.le_of_ble_eq_true rfl⟩ dL_law_433 (fun H locs Y => ?_)
      refine lv_icmp_eq (tgt := 653) hx hb dL_law_436 (by decide) (fun _ => ?_) (fun q => absurd rfl q)
      exact fin Λ π μ (hR.1 _ _ _ _ hrel) _ _ Y
    rcases Decidable.em (v = (11 : Int32)) with v11 | v11
    · refine lv_tableIn (off := 409) (tgt := 441) hx hb dL_law_32 (by rw [v11]; decide) (by rw [v11]; decide) (by rw [v11]; rfl) (by decide) ?_
      obtain ⟨r, e1, e2⟩ := hR.2.2.2.2.2.2.2.2.2.2.2.2.1 k Λ π μ (xs (nI (3 * k) + 1).toNatClampNeg) hk5 hrel
      refine lv_aload_n hx hb dL_law_441 rfl (lv_at hl 1 rfl) ?_
      refine lv_aload_n hx hb dL_law_442 rfl (lv_at hl 0 rfl) ?_
      refine lv_iload_n hx hb dL_law_443 rfl (lv_at hl 3 rfl) ?_
      refine lv_iconst (v := (1 : Int32)) hx hb dL_law_444 (by decide) ?_
      refine lv_iadd hx hb dL_law_445 ?_
      refine va_sld hx hb hX hbl hbA Y.2.2 i1 dL_law_446 ?_
      refine cg_v (it := [0, 1]) (ws2 := wW cI cS cC h g Λ π μ) (As := [.int (xs (nI (3 * k) + 1).toNatClampNeg)]) (rest := []) S hK hA hZ Y hl.1 (mX7_ranked l D cI cS h Λ π (xs (nI (3 * k) + 1).toNatClampNeg) r e1) (cWLC h g Λ π μ) (cWMC h g Λ π μ) nWL nWM dWL (cWLP h g Λ π μ Λ π) nPL rfl kL_60 (T := TX7) (N := 5) rfl (q0 := 0) rfl ⟨Nat.le_of_ble_eq_true rfl, Nat.le_of_ble_eq_true rfl⟩ rfl rfl (Nat.le_of_ble_eq_true rfl) ⟨Nat.le_of_ble_eq_true rfl, Nat.le_of_ble_eq_true rfl⟩ dL_law_447 (fun H locs Y => ?_)
      refine lv_aload_n hx hb dL_law_450 rfl (lv_at hl 2 rfl) ?_
      refine lv_aload_n hx hb dL_law_451 rfl (lv_at hl 0 rfl) ?_
      refine lv_iload_n hx hb dL_law_452 rfl (lv_at hl 3 rfl) ?_
      refine lv_iconst (v := (1 : Int32)) hx hb dL_law_453 (by decide) ?_
      refine lv_iadd hx hb dL_law_454 ?_
      refine va_sld hx hb hX hbl hbA Y.2.2 i1 dL_law_455 ?_
      refine cg_v (it := [0, 2]) (ws2 := wW cI cS cC h g Λ π μ) (As := [.int (xs (nI (3 * k) + 1).toNatClampNeg)]) (rest := [.int r]) S hK hA hZ Y hl.1 (mX8_ranked l D cI cC g μ (xs (nI (3 * k) + 1).toNatClampNeg) r e2) (cWMC h g Λ π μ) (cWLC h g Λ π μ) nWM nWL dWM (cWMP h g Λ π μ μ) nPM rfl kL_63 (T := TX8) (N := 11) rfl (q0 := 85) rfl ⟨Nat.le_of_ble_eq_true rfl, Nat.le_of_ble_eq_true rfl⟩ rfl rfl (Nat.le_of_ble_eq_true rfl) ⟨Nat.le_of_ble_eq_true rfl, Nat.le_of_ble_eq_true rfl⟩ dL_law_456 (fun H locs Y => ?_)
      refine lv_icmp_eq (tgt := 653) hx hb dL_law_459 (by decide) (fun _ => ?_) (fun q => absurd rfl q)
      exact fin Λ π μ (hR.1 _ _ _ _ hrel) _ _ Y
    rcases Decidable.em (v = (12 : Int32)) with v12 | v12
    · refine lv_tableIn (off := 432) (tgt := 464) hx hb dL_law_32 (by rw [v12]; decide) (by rw [v12]; decide) (by rw [v12]; rfl) (by decide) ?_
      obtain ⟨r, e1, e2⟩ := hR.2.2.2.2.2.2.2.2.2.2.2.2.2.1 k Λ π μ hk5 hrel
      refine lv_aload_n hx hb dL_law_464 rfl (lv_at hl 1 rfl) ?_
      refine cg_v (it := [0, 1]) (ws2 := wW cI cS cC h g Λ π μ) (As := []) (rest := []) S hK hA hZ Y hl.1 (mX7_nextSeeker l D cI cS h Λ π r e1) (cWLC h g Λ π μ) (cWMC h g Λ π μ) nWL nWM dWL (cWLP h g Λ π μ Λ π) nPL rfl kL_64 (T := TX7) (N := 5) rfl (q0 := 0) rfl ⟨Nat.le_of_ble_eq_true rfl, Nat.le_of_ble_eq_true rfl⟩ rfl rfl (Nat.le_of_ble_eq_true rfl) ⟨Nat.le_of_ble_eq_true rfl, Nat.le_of_ble_eq_true rfl⟩ dL_law_465 (fun H locs Y => ?_)
      refine lv_aload_n hx hb dL_law_468 rfl (lv_at hl 2 rfl) ?_
      refine cg_v (it := [0, 2]) (ws2 := wW cI cS cC h g Λ π μ) (As := []) (rest := [.int r]) S hK hA hZ Y hl.1 (mX8_nextSeeker l D cI cC g μ r e2) (cWMC h g Λ π μ) (cWLC h g Λ π μ) nWM nWL dWM (cWMP h g Λ π μ μ) nPM rfl kL_67 (T := TX8) (N := 11) rfl (q0 := 85) rfl ⟨Nat.le_of_ble_eq_true rfl, Nat.le_of_ble_eq_true rfl⟩ rfl rfl (Nat.le_of_ble_eq_true rfl) ⟨Nat.le_of_ble_eq_true rfl, Nat.le_of_ble_eq_true rfl⟩ dL_law_469 (fun H locs Y => ?_)
      refine lv_icmp_eq (tgt := 653) hx hb dL_law_472 (by decide) (fun _ => ?_) (fun q => absurd rfl q)
      exact fin Λ π μ (hR.1 _ _ _ _ hrel) _ _ Y
    rcases Decidable.em (v = (13 : Int32)) with v13 | v13
    · refine lv_tableIn (off := 445) (tgt := 477) hx hb dL_law_32 (by rw [v13]; decide) (by rw [v13]; decide) (by rw [v13]; rfl) (by decide) ?_
      obtain ⟨r, e1, e2⟩ := hR.2.2.2.2.2.2.2.2.2.2.2.2.2.2.1 k Λ π μ (xs (nI (3 * k) + 1).toNatClampNeg) hk5 hrel
      refine lv_aload_n hx hb dL_law_477 rfl (lv_at hl 1 rfl) ?_
      refine lv_aload_n hx hb dL_law_478 rfl (lv_at hl 0 rfl) ?_
      refine lv_iload_n hx hb dL_law_479 rfl (lv_at hl 3 rfl) ?_
      refine lv_iconst (v := (1 : Int32)) hx hb dL_law_480 (by decide) ?_
      refine lv_iadd hx hb dL_law_481 ?_
      refine va_sld hx hb hX hbl hbA Y.2.2 i1 dL_law_482 ?_
      refine cg_v (it := [0, 1]) (ws2 := wW cI cS cC h g Λ π μ) (As := [.int (xs (nI (3 * k) + 1).toNatClampNeg)]) (rest := []) S hK hA hZ Y hl.1 (mX7_total l D cI cS h Λ π (xs (nI (3 * k) + 1).toNatClampNeg) r e1) (cWLC h g Λ π μ) (cWMC h g Λ π μ) nWL nWM dWL (cWLP h g Λ π μ Λ π) nPL rfl kL_68 (T := TX7) (N := 5) rfl (q0 := 0) rfl ⟨Nat.le_of_ble_eq_true rfl, Nat.le_of_ble_eq_true rfl⟩ rfl rfl (Nat.le_of_ble_eq_true rfl) ⟨Nat.le_of_ble_eq_true rfl, Nat.le_of_ble_eq_true rfl⟩ dL_law_483 (fun H locs Y => ?_)
      refine lv_aload_n hx hb dL_law_486 rfl (lv_at hl 2 rfl) ?_
      refine lv_aload_n hx hb dL_law_487 rfl (lv_at hl 0 rfl) ?_
      refine lv_iload_n hx hb dL_law_488 rfl (lv_at hl 3 rfl) ?_
      refine lv_iconst (v := (1 : Int32)) hx hb dL_law_489 (by decide) ?_
      refine lv_iadd hx hb dL_law_490 ?_
      refine va_sld hx hb hX hbl hbA Y.2.2 i1 dL_law_491 ?_
      refine cg_v (it := [0, 2]) (ws2 := wW cI cS cC h g Λ π μ) (As := [.int (xs (nI (3 * k) + 1).toNatClampNeg)]) (rest := [.int r]) S hK hA hZ Y hl.1 (mX8_total l D cI cC g μ (xs (nI (3 * k) + 1).toNatClampNeg) r e2) (cWMC h g Λ π μ) (cWLC h g Λ π μ) nWM nWL dWM (cWMP h g Λ π μ μ) nPM rfl kL_71 (T := TX8) (N := 11) rfl (q0 := 85) rfl ⟨Nat.le_of_ble_eq_true rfl, Nat.le_of_ble_eq_true rfl⟩ rfl rfl (Nat.le_of_ble_eq_true rfl) ⟨Nat.le_of_ble_eq_true rfl, Nat.le_of_ble_eq_true rfl⟩ dL_law_492 (fun H locs Y => ?_)
      refine lv_icmp_eq (tgt := 653) hx hb dL_law_495 (by decide) (fun _ => ?_) (fun q => absurd rfl q)
      exact fin Λ π μ (hR.1 _ _ _ _ hrel) _ _ Y
    rcases Decidable.em (v = (14 : Int32)) with v14 | v14
    · refine lv_tableIn (off := 468) (tgt := 500) hx hb dL_law_32 (by rw [v14]; decide) (by rw [v14]; decide) (by rw [v14]; rfl) (by decide) ?_
      obtain ⟨r, e1, e2⟩ := hR.2.2.2.2.2.2.2.2.2.2.2.2.2.2.2.1 k Λ π μ hk5 hrel
      refine lv_aload_n hx hb dL_law_500 rfl (lv_at hl 1 rfl) ?_
      refine cg_v (it := [0, 1]) (ws2 := wW cI cS cC h g Λ π μ) (As := []) (rest := []) S hK hA hZ Y hl.1 (mX7_inSight l D cI cS h Λ π r e1) (cWLC h g Λ π μ) (cWMC h g Λ π μ) nWL nWM dWL (cWLP h g Λ π μ Λ π) nPL rfl kL_72 (T := TX7) (N := 5) rfl (q0 := 0) rfl ⟨Nat.le_of_ble_eq_true rfl, Nat.le_of_ble_eq_true rfl⟩ rfl rfl (Nat.le_of_ble_eq_true rfl) ⟨Nat.le_of_ble_eq_true rfl, Nat.le_of_ble_eq_true rfl⟩ dL_law_501 (fun H locs Y => ?_)
      refine lv_aload_n hx hb dL_law_504 rfl (lv_at hl 2 rfl) ?_
      refine cg_v (it := [0, 2]) (ws2 := wW cI cS cC h g Λ π μ) (As := []) (rest := [.int r]) S hK hA hZ Y hl.1 (mX8_inSight l D cI cC g μ r e2) (cWMC h g Λ π μ) (cWLC h g Λ π μ) nWM nWL dWM (cWMP h g Λ π μ μ) nPM rfl kL_75 (T := TX8) (N := 11) rfl (q0 := 85) rfl ⟨Nat.le_of_ble_eq_true rfl, Nat.le_of_ble_eq_true rfl⟩ rfl rfl (Nat.le_of_ble_eq_true rfl) ⟨Nat.le_of_ble_eq_true rfl, Nat.le_of_ble_eq_true rfl⟩ dL_law_505 (fun H locs Y => ?_)
      refine lv_icmp_eq (tgt := 653) hx hb dL_law_508 (by decide) (fun _ => ?_) (fun q => absurd rfl q)
      exact fin Λ π μ (hR.1 _ _ _ _ hrel) _ _ Y
    rcases Decidable.em (v = (15 : Int32)) with v15 | v15
    · refine lv_tableIn (off := 481) (tgt := 513) hx hb dL_law_32 (by rw [v15]; decide) (by rw [v15]; decide) (by rw [v15]; rfl) (by decide) ?_
      obtain ⟨r, e1, e2⟩ := hR.2.2.2.2.2.2.2.2.2.2.2.2.2.2.2.2.1 k Λ π μ hk5 hrel
      refine lv_aload_n hx hb dL_law_513 rfl (lv_at hl 1 rfl) ?_
      refine cg_v (it := [0, 1]) (ws2 := wW cI cS cC h g Λ π μ) (As := []) (rest := []) S hK hA hZ Y hl.1 (mX7_couldDash l D cI cS h Λ π r e1) (cWLC h g Λ π μ) (cWMC h g Λ π μ) nWL nWM dWL (cWLP h g Λ π μ Λ π) nPL rfl kL_76 (T := TX7) (N := 5) rfl (q0 := 0) rfl ⟨Nat.le_of_ble_eq_true rfl, Nat.le_of_ble_eq_true rfl⟩ rfl rfl (Nat.le_of_ble_eq_true rfl) ⟨Nat.le_of_ble_eq_true rfl, Nat.le_of_ble_eq_true rfl⟩ dL_law_514 (fun H locs Y => ?_)
      refine lv_aload_n hx hb dL_law_517 rfl (lv_at hl 2 rfl) ?_
      refine cg_v (it := [0, 2]) (ws2 := wW cI cS cC h g Λ π μ) (As := []) (rest := [.int r]) S hK hA hZ Y hl.1 (mX8_couldDash l D cI cC g μ r e2) (cWMC h g Λ π μ) (cWLC h g Λ π μ) nWM nWL dWM (cWMP h g Λ π μ μ) nPM rfl kL_79 (T := TX8) (N := 11) rfl (q0 := 85) rfl ⟨Nat.le_of_ble_eq_true rfl, Nat.le_of_ble_eq_true rfl⟩ rfl rfl (Nat.le_of_ble_eq_true rfl) ⟨Nat.le_of_ble_eq_true rfl, Nat.le_of_ble_eq_true rfl⟩ dL_law_518 (fun H locs Y => ?_)
      refine lv_icmp_eq (tgt := 653) hx hb dL_law_521 (by decide) (fun _ => ?_) (fun q => absurd rfl q)
      exact fin Λ π μ (hR.1 _ _ _ _ hrel) _ _ Y
    rcases Decidable.em (v = (16 : Int32)) with v16 | v16
    · refine lv_tableIn (off := 494) (tgt := 526) hx hb dL_law_32 (by rw [v16]; decide) (by rw [v16]; decide) (by rw [v16]; rfl) (by decide) ?_
      obtain ⟨r, e1, e2⟩ := hR.2.2.2.2.2.2.2.2.2.2.2.2.2.2.2.2.2.1 k Λ π μ hk5 hrel
      refine lv_aload_n hx hb dL_law_526 rfl (lv_at hl 1 rfl) ?_
      refine cg_v (it := [0, 1]) (ws2 := wW cI cS cC h g Λ π μ) (As := []) (rest := []) S hK hA hZ Y hl.1 (mX7_bestSpot l D cI cS h Λ π r e1) (cWLC h g Λ π μ) (cWMC h g Λ π μ) nWL nWM dWL (cWLP h g Λ π μ Λ π) nPL rfl kL_80 (T := TX7) (N := 5) rfl (q0 := 0) rfl ⟨Nat.le_of_ble_eq_true rfl, Nat.le_of_ble_eq_true rfl⟩ rfl rfl (Nat.le_of_ble_eq_true rfl) ⟨Nat.le_of_ble_eq_true rfl, Nat.le_of_ble_eq_true rfl⟩ dL_law_527 (fun H locs Y => ?_)
      refine lv_aload_n hx hb dL_law_530 rfl (lv_at hl 2 rfl) ?_
      refine cg_v (it := [0, 2]) (ws2 := wW cI cS cC h g Λ π μ) (As := []) (rest := [.int r]) S hK hA hZ Y hl.1 (mX8_bestSpot l D cI cC g μ r e2) (cWMC h g Λ π μ) (cWLC h g Λ π μ) nWM nWL dWM (cWMP h g Λ π μ μ) nPM rfl kL_83 (T := TX8) (N := 11) rfl (q0 := 85) rfl ⟨Nat.le_of_ble_eq_true rfl, Nat.le_of_ble_eq_true rfl⟩ rfl rfl (Nat.le_of_ble_eq_true rfl) ⟨Nat.le_of_ble_eq_true rfl, Nat.le_of_ble_eq_true rfl⟩ dL_law_531 (fun H locs Y => ?_)
      refine lv_icmp_eq (tgt := 653) hx hb dL_law_534 (by decide) (fun _ => ?_) (fun q => absurd rfl q)
      exact fin Λ π μ (hR.1 _ _ _ _ hrel) _ _ Y
    rcases Decidable.em (v = (17 : Int32)) with v17 | v17
    · refine lv_tableIn (off := 507) (tgt := 539) hx hb dL_law_32 (by rw [v17]; decide) (by rw [v17]; decide) (by rw [v17]; rfl) (by decide) ?_
      obtain ⟨r, e1, e2⟩ := hR.2.2.2.2.2.2.2.2.2.2.2.2.2.2.2.2.2.2.1 k Λ π μ hk5 hrel
      refine lv_aload_n hx hb dL_law_539 rfl (lv_at hl 1 rfl) ?_
      refine cg_v (it := [0, 1]) (ws2 := wW cI cS cC h g Λ π μ) (As := []) (rest := []) S hK hA hZ Y hl.1 (mX7_fewestSteps l D cI cS h Λ π r e1) (cWLC h g Λ π μ) (cWMC h g Λ π μ) nWL nWM dWL (cWLP h g Λ π μ Λ π) nPL rfl kL_84 (T := TX7) (N := 5) rfl (q0 := 0) rfl ⟨Nat.le_of_ble_eq_true rfl, Nat.le_of_ble_eq_true rfl⟩ rfl rfl (Nat.le_of_ble_eq_true rfl) ⟨Nat.le_of_ble_eq_true rfl, Nat.le_of_ble_eq_true rfl⟩ dL_law_540 (fun H locs Y => ?_)
      refine lv_aload_n hx hb dL_law_543 rfl (lv_at hl 2 rfl) ?_
      refine cg_v (it := [0, 2]) (ws2 := wW cI cS cC h g Λ π μ) (As := []) (rest := [.int r]) S hK hA hZ Y hl.1 (mX8_fewestSteps l D cI cC g μ r e2) (cWMC h g Λ π μ) (cWLC h g Λ π μ) nWM nWL dWM (cWMP h g Λ π μ μ) nPM rfl kL_87 (T := TX8) (N := 11) rfl (q0 := 85) rfl ⟨Nat.le_of_ble_eq_true rfl, Nat.le_of_ble_eq_true rfl⟩ rfl rfl (Nat.le_of_ble_eq_true rfl) ⟨Nat.le_of_ble_eq_true rfl, Nat.le_of_ble_eq_true rfl⟩ dL_law_544 (fun H locs Y => ?_)
      refine lv_icmp_eq (tgt := 653) hx hb dL_law_547 (by decide) (fun _ => ?_) (fun q => absurd rfl q)
      exact fin Λ π μ (hR.1 _ _ _ _ hrel) _ _ Y
    rcases Decidable.em (v = (18 : Int32)) with v18 | v18
    · refine lv_tableIn (off := 520) (tgt := 552) hx hb dL_law_32 (by rw [v18]; decide) (by rw [v18]; decide) (by rw [v18]; rfl) (by decide) ?_
      obtain ⟨r, Λ', π', μ', e1, e2, hrel⟩ := hR.2.2.2.2.2.2.2.2.2.2.2.2.2.2.2.2.2.2.2.1 k Λ π μ (xs (nI (3 * k) + 1).toNatClampNeg) hk5 hrel
      refine lv_aload_n hx hb dL_law_552 rfl (lv_at hl 1 rfl) ?_
      refine lv_aload_n hx hb dL_law_553 rfl (lv_at hl 0 rfl) ?_
      refine lv_iload_n hx hb dL_law_554 rfl (lv_at hl 3 rfl) ?_
      refine lv_iconst (v := (1 : Int32)) hx hb dL_law_555 (by decide) ?_
      refine lv_iadd hx hb dL_law_556 ?_
      refine va_sld hx hb hX hbl hbA Y.2.2 i1 dL_law_557 ?_
      refine cg_v (it := [0, 1]) (ws2 := wW cI cS cC h g Λ' π' μ) (As := [.int (xs (nI (3 * k) + 1).toNatClampNeg)]) (rest := []) S hK hA hZ Y hl.1 (mX7_append l D cI cS h Λ π (xs (nI (3 * k) + 1).toNatClampNeg) r Λ' π' e1) (cWLC h g Λ π μ) (cWMC h g Λ π μ) nWL nWM dWL (cWLP h g Λ π μ Λ' π') nPL rfl kL_88 (T := TX7) (N := 5) rfl (q0 := 0) rfl ⟨Nat.le_of_ble_eq_true rfl, Nat.le_of_ble_eq_true rfl⟩ rfl rfl (Nat.le_of_ble_eq_true rfl) ⟨Nat.le_of_ble_eq_true rfl, Nat.le_of_ble_eq_true rfl⟩ dL_law_558 (fun H locs Y => ?_)
      refine lv_aload_n hx hb dL_law_561 rfl (lv_at hl 2 rfl) ?_
      refine lv_aload_n hx hb dL_law_562 rfl (lv_at hl 0 rfl) ?_
      refine lv_iload_n hx hb dL_law_563 rfl (lv_at hl 3 rfl) ?_
      refine lv_iconst (v := (1 : Int32)) hx hb dL_law_564 (by decide) ?_
      refine lv_iadd hx hb dL_law_565 ?_
      refine va_sld hx hb hX hbl hbA Y.2.2 i1 dL_law_566 ?_
      refine cg_v (it := [0, 2]) (ws2 := wW cI cS cC h g Λ' π' μ') (As := [.int (xs (nI (3 * k) + 1).toNatClampNeg)]) (rest := [.int r]) S hK hA hZ Y hl.1 (mX8_append l D cI cC g μ (xs (nI (3 * k) + 1).toNatClampNeg) r μ' e2) (cWMC h g Λ' π' μ) (cWLC h g Λ' π' μ) nWM nWL dWM (cWMP h g Λ' π' μ μ') nPM rfl kL_91 (T := TX8) (N := 11) rfl (q0 := 85) rfl ⟨Nat.le_of_ble_eq_true rfl, Nat.le_of_ble_eq_true rfl⟩ rfl rfl (Nat.le_of_ble_eq_true rfl) ⟨Nat.le_of_ble_eq_true rfl, Nat.le_of_ble_eq_true rfl⟩ dL_law_567 (fun H locs Y => ?_)
      refine lv_icmp_eq (tgt := 653) hx hb dL_law_570 (by decide) (fun _ => ?_) (fun q => absurd rfl q)
      exact fin Λ' π' μ' hrel _ _ Y
    rcases Decidable.em (v = (19 : Int32)) with v19 | v19
    · refine lv_tableIn (off := 543) (tgt := 575) hx hb dL_law_32 (by rw [v19]; decide) (by rw [v19]; decide) (by rw [v19]; rfl) (by decide) ?_
      obtain ⟨r, Λ', π', μ', e1, e2, hrel⟩ := hR.2.2.2.2.2.2.2.2.2.2.2.2.2.2.2.2.2.2.2.2.1 k Λ π μ hk5 hrel
      refine lv_aload_n hx hb dL_law_575 rfl (lv_at hl 1 rfl) ?_
      refine cg_v (it := [0, 1]) (ws2 := wW cI cS cC h g Λ' π' μ) (As := []) (rest := []) S hK hA hZ Y hl.1 (mX7_clearText l D cI cS h Λ π r Λ' π' e1) (cWLC h g Λ π μ) (cWMC h g Λ π μ) nWL nWM dWL (cWLP h g Λ π μ Λ' π') nPL rfl kL_92 (T := TX7) (N := 5) rfl (q0 := 0) rfl ⟨Nat.le_of_ble_eq_true rfl, Nat.le_of_ble_eq_true rfl⟩ rfl rfl (Nat.le_of_ble_eq_true rfl) ⟨Nat.le_of_ble_eq_true rfl, Nat.le_of_ble_eq_true rfl⟩ dL_law_576 (fun H locs Y => ?_)
      refine lv_aload_n hx hb dL_law_579 rfl (lv_at hl 2 rfl) ?_
      refine cg_v (it := [0, 2]) (ws2 := wW cI cS cC h g Λ' π' μ') (As := []) (rest := [.int r]) S hK hA hZ Y hl.1 (mX8_clearText l D cI cC g μ r μ' e2) (cWMC h g Λ' π' μ) (cWLC h g Λ' π' μ) nWM nWL dWM (cWMP h g Λ' π' μ μ') nPM rfl kL_95 (T := TX8) (N := 11) rfl (q0 := 85) rfl ⟨Nat.le_of_ble_eq_true rfl, Nat.le_of_ble_eq_true rfl⟩ rfl rfl (Nat.le_of_ble_eq_true rfl) ⟨Nat.le_of_ble_eq_true rfl, Nat.le_of_ble_eq_true rfl⟩ dL_law_580 (fun H locs Y => ?_)
      refine lv_icmp_eq (tgt := 653) hx hb dL_law_583 (by decide) (fun _ => ?_) (fun q => absurd rfl q)
      exact fin Λ' π' μ' hrel _ _ Y
    rcases Decidable.em (v = (20 : Int32)) with v20 | v20
    · refine lv_tableIn (off := 556) (tgt := 588) hx hb dL_law_32 (by rw [v20]; decide) (by rw [v20]; decide) (by rw [v20]; rfl) (by decide) ?_
      obtain ⟨r, μ', e1, e2, hrel⟩ := hR.2.2.2.2.2.2.2.2.2.2.2.2.2.2.2.2.2.2.2.2.2.1 k Λ π μ hk5 hrel
      refine lv_aload_n hx hb dL_law_588 rfl (lv_at hl 1 rfl) ?_
      refine cg_v (it := [0, 1]) (ws2 := wW cI cS cC h g Λ π μ) (As := []) (rest := []) S hK hA hZ Y hl.1 (mX7_errorPosition l D cI cS h Λ π r e1) (cWLC h g Λ π μ) (cWMC h g Λ π μ) nWL nWM dWL (cWLP h g Λ π μ Λ π) nPL rfl kL_96 (T := TX7) (N := 5) rfl (q0 := 0) rfl ⟨Nat.le_of_ble_eq_true rfl, Nat.le_of_ble_eq_true rfl⟩ rfl rfl (Nat.le_of_ble_eq_true rfl) ⟨Nat.le_of_ble_eq_true rfl, Nat.le_of_ble_eq_true rfl⟩ dL_law_589 (fun H locs Y => ?_)
      refine lv_aload_n hx hb dL_law_592 rfl (lv_at hl 2 rfl) ?_
      refine cg_v (it := [0, 2]) (ws2 := wW cI cS cC h g Λ π μ') (As := []) (rest := [.int r]) S hK hA hZ Y hl.1 (mX8_errorPosition l D cI cC g μ r μ' e2) (cWMC h g Λ π μ) (cWLC h g Λ π μ) nWM nWL dWM (cWMP h g Λ π μ μ') nPM rfl kL_99 (T := TX8) (N := 11) rfl (q0 := 85) rfl ⟨Nat.le_of_ble_eq_true rfl, Nat.le_of_ble_eq_true rfl⟩ rfl rfl (Nat.le_of_ble_eq_true rfl) ⟨Nat.le_of_ble_eq_true rfl, Nat.le_of_ble_eq_true rfl⟩ dL_law_593 (fun H locs Y => ?_)
      refine lv_icmp_eq (tgt := 653) hx hb dL_law_596 (by decide) (fun _ => ?_) (fun q => absurd rfl q)
      exact fin Λ π μ' hrel _ _ Y
    rcases Decidable.em (v = (21 : Int32)) with v21 | v21
    · refine lv_tableIn (off := 569) (tgt := 601) hx hb dL_law_32 (by rw [v21]; decide) (by rw [v21]; decide) (by rw [v21]; rfl) (by decide) ?_
      obtain ⟨r, Λ', π', μ', e1, e2, hrel⟩ := hR.2.2.2.2.2.2.2.2.2.2.2.2.2.2.2.2.2.2.2.2.2.2.1 k Λ π μ hk5 hrel
      refine lv_aload_n hx hb dL_law_601 rfl (lv_at hl 1 rfl) ?_
      refine cg_v (it := [0, 1]) (ws2 := wW cI cS cC h g Λ' π' μ) (As := []) (rest := []) S hK hA hZ Y hl.1 (mX7_play l D cI cS h Λ π r Λ' π' e1) (cWLC h g Λ π μ) (cWMC h g Λ π μ) nWL nWM dWL (cWLP h g Λ π μ Λ' π') nPL rfl kL_100 (T := TX7) (N := 5) rfl (q0 := 0) rfl ⟨Nat.le_of_ble_eq_true rfl, Nat.le_of_ble_eq_true rfl⟩ rfl rfl (Nat.le_of_ble_eq_true rfl) ⟨Nat.le_of_ble_eq_true rfl, Nat.le_of_ble_eq_true rfl⟩ dL_law_602 (fun H locs Y => ?_)
      refine lv_aload_n hx hb dL_law_605 rfl (lv_at hl 2 rfl) ?_
      refine cg_v (it := [0, 2]) (ws2 := wW cI cS cC h g Λ' π' μ') (As := []) (rest := [.int r]) S hK hA hZ Y hl.1 (mX8_play l D cI cC g μ r μ' e2) (cWMC h g Λ' π' μ) (cWLC h g Λ' π' μ) nWM nWL dWM (cWMP h g Λ' π' μ μ') nPM rfl kL_103 (T := TX8) (N := 11) rfl (q0 := 85) rfl ⟨Nat.le_of_ble_eq_true rfl, Nat.le_of_ble_eq_true rfl⟩ rfl rfl (Nat.le_of_ble_eq_true rfl) ⟨Nat.le_of_ble_eq_true rfl, Nat.le_of_ble_eq_true rfl⟩ dL_law_606 (fun H locs Y => ?_)
      refine lv_icmp_eq (tgt := 653) hx hb dL_law_609 (by decide) (fun _ => ?_) (fun q => absurd rfl q)
      exact fin Λ' π' μ' hrel _ _ Y
    rcases Decidable.em (v = (22 : Int32)) with v22 | v22
    · refine lv_tableIn (off := 582) (tgt := 614) hx hb dL_law_32 (by rw [v22]; decide) (by rw [v22]; decide) (by rw [v22]; rfl) (by decide) ?_
      obtain ⟨r, Λ', π', μ', e1, e2, hrel⟩ := hR.2.2.2.2.2.2.2.2.2.2.2.2.2.2.2.2.2.2.2.2.2.2.2.1 k Λ π μ hk5 hrel
      refine lv_aload_n hx hb dL_law_614 rfl (lv_at hl 1 rfl) ?_
      refine cg_v (it := [0, 1]) (ws2 := wW cI cS cC h g Λ' π' μ) (As := []) (rest := []) S hK hA hZ Y hl.1 (mX7_undo l D cI cS h Λ π r Λ' π' e1) (cWLC h g Λ π μ) (cWMC h g Λ π μ) nWL nWM dWL (cWLP h g Λ π μ Λ' π') nPL rfl kL_104 (T := TX7) (N := 5) rfl (q0 := 0) rfl ⟨Nat.le_of_ble_eq_true rfl, Nat.le_of_ble_eq_true rfl⟩ rfl rfl (Nat.le_of_ble_eq_true rfl) ⟨Nat.le_of_ble_eq_true rfl, Nat.le_of_ble_eq_true rfl⟩ dL_law_615 (fun H locs Y => ?_)
      refine lv_aload_n hx hb dL_law_618 rfl (lv_at hl 2 rfl) ?_
      refine cg_v (it := [0, 2]) (ws2 := wW cI cS cC h g Λ' π' μ') (As := []) (rest := [.int r]) S hK hA hZ Y hl.1 (mX8_undo l D cI cC g μ r μ' e2) (cWMC h g Λ' π' μ) (cWLC h g Λ' π' μ) nWM nWL dWM (cWMP h g Λ' π' μ μ') nPM rfl kL_107 (T := TX8) (N := 11) rfl (q0 := 85) rfl ⟨Nat.le_of_ble_eq_true rfl, Nat.le_of_ble_eq_true rfl⟩ rfl rfl (Nat.le_of_ble_eq_true rfl) ⟨Nat.le_of_ble_eq_true rfl, Nat.le_of_ble_eq_true rfl⟩ dL_law_619 (fun H locs Y => ?_)
      refine lv_icmp_eq (tgt := 653) hx hb dL_law_622 (by decide) (fun _ => ?_) (fun q => absurd rfl q)
      exact fin Λ' π' μ' hrel _ _ Y
    rcases Decidable.em (v = (23 : Int32)) with v23 | v23
    · refine lv_tableIn (off := 595) (tgt := 627) hx hb dL_law_32 (by rw [v23]; decide) (by rw [v23]; decide) (by rw [v23]; rfl) (by decide) ?_
      obtain ⟨r, Λ', π', μ', e1, e2, hrel⟩ := hR.2.2.2.2.2.2.2.2.2.2.2.2.2.2.2.2.2.2.2.2.2.2.2.2.1 k Λ π μ hk5 hrel
      refine lv_aload_n hx hb dL_law_627 rfl (lv_at hl 1 rfl) ?_
      refine cg_v (it := [0, 1]) (ws2 := wW cI cS cC h g Λ' π' μ) (As := []) (rest := []) S hK hA hZ Y hl.1 (mX7_save l D cI cS h Λ π r Λ' π' e1) (cWLC h g Λ π μ) (cWMC h g Λ π μ) nWL nWM dWL (cWLP h g Λ π μ Λ' π') nPL rfl kL_108 (T := TX7) (N := 5) rfl (q0 := 0) rfl ⟨Nat.le_of_ble_eq_true rfl, Nat.le_of_ble_eq_true rfl⟩ rfl rfl (Nat.le_of_ble_eq_true rfl) ⟨Nat.le_of_ble_eq_true rfl, Nat.le_of_ble_eq_true rfl⟩ dL_law_628 (fun H locs Y => ?_)
      refine lv_aload_n hx hb dL_law_631 rfl (lv_at hl 2 rfl) ?_
      refine cg_v (it := [0, 2]) (ws2 := wW cI cS cC h g Λ' π' μ') (As := []) (rest := [.int r]) S hK hA hZ Y hl.1 (mX8_save l D cI cC g μ r μ' e2) (cWMC h g Λ' π' μ) (cWLC h g Λ' π' μ) nWM nWL dWM (cWMP h g Λ' π' μ μ') nPM rfl kL_111 (T := TX8) (N := 11) rfl (q0 := 85) rfl ⟨Nat.le_of_ble_eq_true rfl, Nat.le_of_ble_eq_true rfl⟩ rfl rfl (Nat.le_of_ble_eq_true rfl) ⟨Nat.le_of_ble_eq_true rfl, Nat.le_of_ble_eq_true rfl⟩ dL_law_632 (fun H locs Y => ?_)
      refine lv_icmp_eq (tgt := 653) hx hb dL_law_635 (by decide) (fun _ => ?_) (fun q => absurd rfl q)
      exact fin Λ' π' μ' hrel _ _ Y
    rcases Decidable.em (v = (24 : Int32)) with v24 | v24
    · refine lv_tableIn (off := 608) (tgt := 640) hx hb dL_law_32 (by rw [v24]; decide) (by rw [v24]; decide) (by rw [v24]; rfl) (by decide) ?_
      obtain ⟨r, Λ', π', μ', e1, e2, hrel⟩ := hR.2.2.2.2.2.2.2.2.2.2.2.2.2.2.2.2.2.2.2.2.2.2.2.2.2 k Λ π μ hk5 hrel
      refine lv_aload_n hx hb dL_law_640 rfl (lv_at hl 1 rfl) ?_
      refine cg_v (it := [0, 1]) (ws2 := wW cI cS cC h g Λ' π' μ) (As := []) (rest := []) S hK hA hZ Y hl.1 (mX7_restore l D cI cS h Λ π r Λ' π' e1) (cWLC h g Λ π μ) (cWMC h g Λ π μ) nWL nWM dWL (cWLP h g Λ π μ Λ' π') nPL rfl kL_112 (T := TX7) (N := 5) rfl (q0 := 0) rfl ⟨Nat.le_of_ble_eq_true rfl, Nat.le_of_ble_eq_true rfl⟩ rfl rfl (Nat.le_of_ble_eq_true rfl) ⟨Nat.le_of_ble_eq_true rfl, Nat.le_of_ble_eq_true rfl⟩ dL_law_641 (fun H locs Y => ?_)
      refine lv_aload_n hx hb dL_law_644 rfl (lv_at hl 2 rfl) ?_
      refine cg_v (it := [0, 2]) (ws2 := wW cI cS cC h g Λ' π' μ') (As := []) (rest := [.int r]) S hK hA hZ Y hl.1 (mX8_restore l D cI cC g μ r μ' e2) (cWMC h g Λ' π' μ) (cWLC h g Λ' π' μ) nWM nWL dWM (cWMP h g Λ' π' μ μ') nPM rfl kL_115 (T := TX8) (N := 11) rfl (q0 := 85) rfl ⟨Nat.le_of_ble_eq_true rfl, Nat.le_of_ble_eq_true rfl⟩ rfl rfl (Nat.le_of_ble_eq_true rfl) ⟨Nat.le_of_ble_eq_true rfl, Nat.le_of_ble_eq_true rfl⟩ dL_law_645 (fun H locs Y => ?_)
      refine lv_icmp_eq (tgt := 653) hx hb dL_law_648 (by decide) (fun _ => ?_) (fun q => absurd rfl q)
      exact fin Λ' π' μ' hrel _ _ Y
    have tv0 := lv_neT v0 (show (0 : Int32).toInt = 0 by decide)
    have tv1 := lv_neT v1 (show (1 : Int32).toInt = 1 by decide)
    have tv2 := lv_neT v2 (show (2 : Int32).toInt = 2 by decide)
    have tv3 := lv_neT v3 (show (3 : Int32).toInt = 3 by decide)
    have tv4 := lv_neT v4 (show (4 : Int32).toInt = 4 by decide)
    have tv5 := lv_neT v5 (show (5 : Int32).toInt = 5 by decide)
    have tv6 := lv_neT v6 (show (6 : Int32).toInt = 6 by decide)
    have tv7 := lv_neT v7 (show (7 : Int32).toInt = 7 by decide)
    have tv8 := lv_neT v8 (show (8 : Int32).toInt = 8 by decide)
    have tv9 := lv_neT v9 (show (9 : Int32).toInt = 9 by decide)
    have tv10 := lv_neT v10 (show (10 : Int32).toInt = 10 by decide)
    have tv11 := lv_neT v11 (show (11 : Int32).toInt = 11 by decide)
    have tv12 := lv_neT v12 (show (12 : Int32).toInt = 12 by decide)
    have tv13 := lv_neT v13 (show (13 : Int32).toInt = 13 by decide)
    have tv14 := lv_neT v14 (show (14 : Int32).toInt = 14 by decide)
    have tv15 := lv_neT v15 (show (15 : Int32).toInt = 15 by decide)
    have tv16 := lv_neT v16 (show (16 : Int32).toInt = 16 by decide)
    have tv17 := lv_neT v17 (show (17 : Int32).toInt = 17 by decide)
    have tv18 := lv_neT v18 (show (18 : Int32).toInt = 18 by decide)
    have tv19 := lv_neT v19 (show (19 : Int32).toInt = 19 by decide)
    have tv20 := lv_neT v20 (show (20 : Int32).toInt = 20 by decide)
    have tv21 := lv_neT v21 (show (21 : Int32).toInt = 21 by decide)
    have tv22 := lv_neT v22 (show (22 : Int32).toInt = 22 by decide)
    have tv23 := lv_neT v23 (show (23 : Int32).toInt = 23 by decide)
    have tv24 := lv_neT v24 (show (24 : Int32).toInt = 24 by decide)
    refine lv_tableOut (tgt := 653) hx hb dL_law_32 (by omega) (by decide) ?_
    exact fin Λ π μ (hR.1 _ _ _ _ hrel) _ _ Y
