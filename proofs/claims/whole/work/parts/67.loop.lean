def R_law : String := "CellKeeperLaw"
def lw_P (b : Addr) (xs : List Int32) (args : Array Value) (s : State) : Prop := args = #[.ref b] ∧ s.IntsAt b xs ∧ xs.length ≤ 389 ∧ (Jvm.Cond.and given_1 narrow_1).before args s = true
/-- what a walk over the start with the record d0 says of its end, said of the start itself -/
theorem lw_closed {s t : State} {o : Outcome} {d0 : Drawn} {L : List Loc} {k n : Nat} (hd0 : s.drawn.sameBut d0 lw_cs) (hv : ∃ v, o = .returned v) (hW : (s.setDrawn d0).WarmedH t.vm) (hs : (s.setDrawn d0).sameButNew ({ t with vm := s.vm } : State) L k n) : State.butDraws s t lw_cs (fun t1 => Framed s o t1 L k n) := by
  have h2 : t.drawn = d0 := congrArg State.drawn hs.1
  refine ⟨⟨hv, hW, State.sameButNew.setDrawn hs s.drawn⟩, ?_, by decide⟩
  rw [h2]
  exact hd0
def lw_Q (_ : Array Value) (s : State) (o : Outcome) (t : State) : Prop := o = .returned (some (.int 1)) ∧ State.butDraws s t lw_cs (fun t1 => Framed s o t1 [] 600128 7301064)
def lw_Z (below : List Frame) (a : Array Value) (s : State) : State → Prop := fun t => ∃ o, t.status = .running ∧ Ended t below o ∧ lw_Q a s o t
/-- the law's own end, with 1 on the stack, nothing written that was there before, its room as the claim has it; d0: the record of draws at this point (at the entry s.drawn: begin with 'refine W.base ?_' and 'have hd0 := Drawn.sameBut.refl s.drawn lw_cs') -/
theorem lw_ret {p : Program} {l : Launch} {e : Env} {s : State} {m : MethodId} {below : List Frame} {meth : Method} {c : Code} {b : Nat} {d0 : Drawn} (hd0 : s.drawn.sameBut d0 lw_cs) (hx : p.tables.exec = Jvm.exec) (hb : c.code = code) (hr : meth.sig.returnType = ret) (hlocks : meth.locks = false) {pc : Nat} {H : Heap} {ls : Array Slot} (hdg : decode code pc = .ok (.ireturn, 1)) : W p l e room_1 (s.setDrawn d0) m #[Value.ref b] below meth c H [] 600128 7301064 (lw_Z below #[Value.ref b] s) (F0 m pc ls [.int 1]) := by
  intro T hT X
  obtain ⟨fs, hret, hrun, hended, hW, hframe⟩ := X.leave (v := some (.int 1)) (hlocks := hlocks) (fun h => by rw [hr] at h; cases h)
  have hmeth' : T.vm.method? m = some meth := X.method'
  refine ⟨T.setFrames fs, ?_, .returned (some (.int 1)), hrun, hended, rfl, lw_closed hd0 ⟨_, rfl⟩ hW hframe⟩
  jvm_step X.here [X.here.top, hx, hb, hdg, hmeth', hr, ret, narrow_b1]
  (try refine ⟨rfl, ?_⟩); (try refine ⟨rfl, ?_⟩)
  first | (intro acts; rw [hret _ acts rfl rfl rfl]) | rw [hret _ _ rfl rfl rfl]
  exact Steps.refl _
/-- what holds at the law's entry: the machine, the code, the tables' words (any of lw_tbl by 'hts w (by decide +kernel)'), the script of L ints xs at the cell b, what the Statement gives of the start (any of its parts by flat_of_before) -/
def lw_At (p : Program) (s : State) (m : MethodId) (meth : Method) (c : Code) (b L : Nat) (xs : Nat → Int32) : Prop :=
  p.tables.exec = Jvm.exec ∧ c.code = code ∧ meth.sig.returnType = ret ∧ c.maxLocals = 9 ∧ s.vm.findClass R_law = some m.cls ∧ (∀ w ∈ lw_tbl, w.before #[Value.ref b] s = true) ∧ va_X b L xs s s.heap ∧ b < s.heap.size ∧ meth.locks = false ∧ (Jvm.Cond.and given_1 narrow_1).before #[Value.ref b] s = true
/-! THE LAW'S LOOP. -/
def lw_cell (L : Nat) (xs : Nat → Int32) (k : Int32) : Int32 := if nI L ≤ k then 0 else xs k.toNatClampNeg
set_option maxHeartbeats 4000000 in
set_option maxRecDepth 100000 in
theorem law_step {p : Program} {l : Launch} {e : Env} {s : State} {m : MethodId} {below : List Frame} {meth : Method} {c : Code} {G : ck_G} {b L bb : Nat} {xs : Nat → Int32} {cap : Int} (C : ck_LX p l s m meth c #[Value.ref b] b L xs G) (hL : L ≤ 389) (hC : ck_inC G) (hM : ck_inM G) (hO21 : (21, 0) ∈ ck_Ls G) (hO22 : (22, 0) ∈ ck_Ls G) (hnb : ck_nb G = 32 * bb) (hA : ∀ q, ck_A G s.heap.size q → s.heap.size ≤ q) {t : Nat} (ht : t ≤ 64)
    (next : t < 64 → ∀ (σ : ck_S) (x5 : Int32) (H : Heap) (locs : List Loc) (ls : Array Slot), RC (ck_nc G) bb (200 * t + 200) cap σ σ → x5 = nI (5 + 6 * (t + 1)) → ck_H G s H locs σ → lv_has ls 9 [(0, .ref b), (1, .ref (ck_ad G 0 0)), (2, .ref (ck_ad G 10 0)), (3, .ref (ck_ad G 21 0)), (4, .ref (ck_ad G 22 0)), (5, .int x5)] → W p l e room_1 s m #[Value.ref b] below meth c H locs (5000 + 20 * t + 20) (5000 + 200 * t + 200) (lw_Z below #[Value.ref b] s) (F0 m 78 ls []))
    {σ : ck_S} {x5 : Int32} {H : Heap} {locs : List Loc} {ls : Array Slot} (hR : RC (ck_nc G) bb (200 * t) cap σ σ) (h5 : x5 = nI (5 + 6 * t)) (hw : ck_H G s H locs σ) (hl : lv_has ls 9 [(0, .ref b), (1, .ref (ck_ad G 0 0)), (2, .ref (ck_ad G 10 0)), (3, .ref (ck_ad G 21 0)), (4, .ref (ck_ad G 22 0)), (5, .int x5)]) : W p l e room_1 s m #[Value.ref b] below meth c H locs (5000 + 20 * t) (5000 + 200 * t) (lw_Z below #[Value.ref b] s) (F0 m 78 ls []) := by
  obtain ⟨hx, hb, hr, hml, hown, hts, hlocks, hlt, hE, hX, hbl, hbA⟩ := id C
  refine lv_iload hx hb dL_law_78 (lv_at hl 5 rfl) ?_
  refine lv_aload_n hx hb dL_law_80 rfl (lv_at hl 0 rfl) ?_
  refine va_slen hx hb hX hbl hbA hw.2.2.2 dL_law_81 ?_
  refine lv_bipush (v := 6) hx hb dL_law_82 (by decide) ?_
  refine lv_isub hx hb dL_law_84 ?_
  refine lv_icmp_gt (tgt := 1540) hx hb dL_law_85 (by decide) (fun hc => ?_) (fun hc => ?_)
  · refine lv_iconst (v := 1) hx hb dL_law_1540 (by decide) ?_
    refine va_forget (fun q hq => hA _ (hw.2.2.2.2.2 q hq)) ?_
    refine W.widen (k := 600128) (n := 7301064) (by omega) (by omega) ?_
    refine W.base ?_
    exact lw_ret (Drawn.sameBut.refl s.drawn lw_cs) hx hb hr hlocks dL_law_1541
  · have hb6 : 5 + 6 * t + 6 ≤ L := by
      have e1 : (Int32.ofNat L - 6).toInt = (L : Int) - (6 : Nat) := pk_sub_toInt (a := L) (b := 6) (by omega) (by omega)
      have e2 := nI_toInt (n := 5 + 6 * t) (by omega)
      rw [h5, Int32.lt_iff_toInt_lt] at hc
      omega
    have hin : ∀ j : Nat, j < 6 → vp_in (nI (5 + 6 * t + j)) L := fun j hj => pk_in (5 + 6 * t + j) L (by omega)
    subst h5
    have v0 : vp_in (nI (5 + 6 * t)) L := hin 0 (by omega)
    have v1 : vp_in (nI (5 + 6 * t) + 1) L := by rw [show nI (5 + 6 * t) + 1 = nI (5 + 6 * t + 1) from nI_add _ 1]; exact hin 1 (by omega)
    have v2 : vp_in (nI (5 + 6 * t) + 2) L := by rw [show nI (5 + 6 * t) + 2 = nI (5 + 6 * t + 2) from nI_add _ 2]; exact hin 2 (by omega)
    have v3 : vp_in (nI (5 + 6 * t) + 3) L := by rw [show nI (5 + 6 * t) + 3 = nI (5 + 6 * t + 3) from nI_add _ 3]; exact hin 3 (by omega)
    have v4 : vp_in (nI (5 + 6 * t) + 4) L := by rw [show nI (5 + 6 * t) + 4 = nI (5 + 6 * t + 4) from nI_add _ 4]; exact hin 4 (by omega)
    have v5 : vp_in (nI (5 + 6 * t) + 5) L := by rw [show nI (5 + 6 * t) + 5 = nI (5 + 6 * t + 5) from nI_add _ 5]; exact hin 5 (by omega)
    have ht1 : t < 64 := by omega
    have tail : ∀ (σ : ck_S) (x5 : Int32) (H : Heap) (locs : List Loc) (ls : Array Slot), (RC (ck_nc G) bb (200 * t + 200) cap σ σ ∧ x5 = nI (5 + 6 * t)) → ck_H G s H locs σ → lv_has ls 9 [(0, .ref b), (1, .ref (ck_ad G 0 0)), (2, .ref (ck_ad G 10 0)), (3, .ref (ck_ad G 21 0)), (4, .ref (ck_ad G 22 0)), (5, .int x5)] → W p l e room_1 s m #[Value.ref b] below meth c H locs (5000 + 20 * t + 20) (5000 + 200 * t + 200) (lw_Z below #[Value.ref b] s) (F0 m 1534 ls []) := by
      intro σ x5 H locs ls hq hw hl
      obtain ⟨hq, rfl⟩ := hq
      refine lv_iinc (v := nI (5 + 6 * (t + 1))) (lv' := [(5, .int (nI (5 + 6 * (t + 1)))), (0, .ref b), (1, .ref (ck_ad G 0 0)), (2, .ref (ck_ad G 10 0)), (3, .ref (ck_ad G 21 0)), (4, .ref (ck_ad G 22 0))]) hx hb dL_law_1534 hl (k := 5) rfl (nI_add (5 + 6 * t) 6) (by decide) rfl (fun ls hl => ?_)
      refine lv_goto (tgt := 78) hx hb dL_law_1537 (by decide) ?_
      exact next ht1 σ _ H locs ls hq rfl hw (lv_sub hl [1, 2, 3, 4, 5, 0] rfl)
    refine lv_aload_n hx hb dL_law_88 rfl (lv_at hl 0 rfl) ?_
    refine lv_iload hx hb dL_law_89 (lv_at hl 5 rfl) ?_
    refine va_sld hx hb hX hbl hbA hw.2.2.2 v0 dL_law_91 ?_
    refine lv_bipush (v := 31) hx hb dL_law_92 (by decide) ?_
    refine lv_iand hx hb dL_law_94 ?_
    obtain ⟨j, hj, ej⟩ := pk_andE (xs (nI (5 + 6 * t)).toNatClampNeg) (m := 31) 5 (by decide)
    rw [ej]
    match j, hj with
    | 0, _ =>
      refine lv_tableIn (off := 109) (tgt := 204) hx hb dL_law_95 (by decide) (by decide) (by decide) (by decide) ?_
      exact wk_law_204 C hC hM hO21 hO22 (by omega) (by omega) (K := fun σ' x => RC (ck_nc G) bb (200 * t + 200) cap σ' σ' ∧ x = nI (5 + 6 * t)) tail (by rw [hnb]; exact lc_204 hR  (fun σ' h => ⟨h, rfl⟩)) hw hl
    | 1, _ =>
      refine lv_tableIn (off := 122) (tgt := 217) hx hb dL_law_95 (by decide) (by decide) (by decide) (by decide) ?_
      exact wk_law_217 C hC hM hO21 hO22 (by omega) (by omega) (K := fun σ' x => RC (ck_nc G) bb (200 * t + 200) cap σ' σ' ∧ x = nI (5 + 6 * t)) tail (by rw [hnb]; exact lc_217 hR v1 v2 v3 v4 (fun σ' h => ⟨h, rfl⟩)) hw hl
    | 2, _ =>
      refine lv_tableIn (off := 223) (tgt := 318) hx hb dL_law_95 (by decide) (by decide) (by decide) (by decide) ?_
      exact wk_law_318 C hC hM hO21 hO22 (by omega) (by omega) (K := fun σ' x => RC (ck_nc G) bb (200 * t + 200) cap σ' σ' ∧ x = nI (5 + 6 * t)) tail (by rw [hnb]; exact lc_318 hR (by omega) v1 v2 v3 v4 v5 (fun σ' h => ⟨h, rfl⟩)) hw hl
    | 3, _ =>
      refine lv_tableIn (off := 374) (tgt := 469) hx hb dL_law_95 (by decide) (by decide) (by decide) (by decide) ?_
      exact wk_law_469 C hC hM hO21 hO22 (by omega) (by omega) (K := fun σ' x => RC (ck_nc G) bb (200 * t + 200) cap σ' σ' ∧ x = nI (5 + 6 * t)) tail (by rw [hnb]; exact lc_469 hR v1 (fun σ' h => ⟨h, rfl⟩)) hw hl
    | 4, _ =>
      refine lv_tableIn (off := 420) (tgt := 515) hx hb dL_law_95 (by decide) (by decide) (by decide) (by decide) ?_
      exact wk_law_515 C hC hM hO21 hO22 (by omega) (by omega) (K := fun σ' x => RC (ck_nc G) bb (200 * t + 200) cap σ' σ' ∧ x = nI (5 + 6 * t)) tail (by rw [hnb]; exact lc_515 hR v1 v2 (fun σ' h => ⟨h, rfl⟩)) hw hl
    | 5, _ =>
      refine lv_tableIn (off := 478) (tgt := 573) hx hb dL_law_95 (by decide) (by decide) (by decide) (by decide) ?_
      exact wk_law_573 C hC hM hO21 hO22 (by omega) (by omega) (K := fun σ' x => RC (ck_nc G) bb (200 * t + 200) cap σ' σ' ∧ x = nI (5 + 6 * t)) tail (by rw [hnb]; exact lc_573 hR v1 (fun σ' h => ⟨h, rfl⟩)) hw hl
    | 6, _ =>
      refine lv_tableIn (off := 514) (tgt := 609) hx hb dL_law_95 (by decide) (by decide) (by decide) (by decide) ?_
      exact wk_law_609 C hC hM hO21 hO22 (by omega) (by omega) (K := fun σ' x => RC (ck_nc G) bb (200 * t + 200) cap σ' σ' ∧ x = nI (5 + 6 * t)) tail (by rw [hnb]; exact lc_609 hR v1 (fun σ' h => ⟨h, rfl⟩)) hw hl
    | 7, _ =>
      refine lv_tableIn (off := 566) (tgt := 661) hx hb dL_law_95 (by decide) (by decide) (by decide) (by decide) ?_
      exact wk_law_661 C hC hM hO21 hO22 (by omega) (by omega) (K := fun σ' x => RC (ck_nc G) bb (200 * t + 200) cap σ' σ' ∧ x = nI (5 + 6 * t)) tail (by rw [hnb]; exact lc_661 hR v1 (fun σ' h => ⟨h, rfl⟩)) hw hl
    | 8, _ =>
      refine lv_tableIn (off := 612) (tgt := 707) hx hb dL_law_95 (by decide) (by decide) (by decide) (by decide) ?_
      exact wk_law_707 C hC hM hO21 hO22 (by omega) (by omega) (K := fun σ' x => RC (ck_nc G) bb (200 * t + 200) cap σ' σ' ∧ x = nI (5 + 6 * t)) tail (by rw [hnb]; exact lc_707 hR (by omega) v1 (fun σ' h => ⟨h, rfl⟩)) hw hl
    | 9, _ =>
      refine lv_tableIn (off := 668) (tgt := 763) hx hb dL_law_95 (by decide) (by decide) (by decide) (by decide) ?_
      exact wk_law_763 C hC hM hO21 hO22 (by omega) (by omega) (K := fun σ' x => RC (ck_nc G) bb (200 * t + 200) cap σ' σ' ∧ x = nI (5 + 6 * t)) tail (by rw [hnb]; exact lc_763 hR v1 (fun σ' h => ⟨h, rfl⟩)) hw hl
    | 10, _ =>
      refine lv_tableIn (off := 731) (tgt := 826) hx hb dL_law_95 (by decide) (by decide) (by decide) (by decide) ?_
      exact wk_law_826 C hC hM hO21 hO22 (by omega) (by omega) (K := fun σ' x => RC (ck_nc G) bb (200 * t + 200) cap σ' σ' ∧ x = nI (5 + 6 * t)) tail (by rw [hnb]; exact lc_826 hR v1 (fun σ' h => ⟨h, rfl⟩)) hw hl
    | 11, _ =>
      refine lv_tableIn (off := 767) (tgt := 862) hx hb dL_law_95 (by decide) (by decide) (by decide) (by decide) ?_
      exact wk_law_862 C hC hM hO21 hO22 (by omega) (by omega) (K := fun σ' x => RC (ck_nc G) bb (200 * t + 200) cap σ' σ' ∧ x = nI (5 + 6 * t)) tail (by rw [hnb]; exact lc_862 hR  (fun σ' h => ⟨h, rfl⟩)) hw hl
    | 12, _ =>
      refine lv_tableIn (off := 780) (tgt := 875) hx hb dL_law_95 (by decide) (by decide) (by decide) (by decide) ?_
      exact wk_law_875 C hC hM hO21 hO22 (by omega) (by omega) (K := fun σ' x => RC (ck_nc G) bb (200 * t + 200) cap σ' σ' ∧ x = nI (5 + 6 * t)) tail (by rw [hnb]; exact lc_875 hR  (fun σ' h => ⟨h, rfl⟩)) hw hl
    | 13, _ =>
      refine lv_tableIn (off := 793) (tgt := 888) hx hb dL_law_95 (by decide) (by decide) (by decide) (by decide) ?_
      exact wk_law_888 C hC hM hO21 hO22 (by omega) (by omega) (K := fun σ' x => RC (ck_nc G) bb (200 * t + 200) cap σ' σ' ∧ x = nI (5 + 6 * t)) tail (by rw [hnb]; exact lc_888 hR  (fun σ' h => ⟨h, rfl⟩)) hw hl
    | 14, _ =>
      refine lv_tableIn (off := 837) (tgt := 932) hx hb dL_law_95 (by decide) (by decide) (by decide) (by decide) ?_
      exact wk_law_932 C hC hM hO21 hO22 (by omega) (by omega) (K := fun σ' x => RC (ck_nc G) bb (200 * t + 200) cap σ' σ' ∧ x = nI (5 + 6 * t)) tail (by rw [hnb]; exact lc_932 hR  (fun σ' h => ⟨h, rfl⟩)) hw hl
    | 15, _ =>
      refine lv_tableIn (off := 902) (tgt := 997) hx hb dL_law_95 (by decide) (by decide) (by decide) (by decide) ?_
      exact wk_law_997 C hC hM hO21 hO22 (by omega) (by omega) (K := fun σ' x => RC (ck_nc G) bb (200 * t + 200) cap σ' σ' ∧ x = nI (5 + 6 * t)) tail (by rw [hnb]; exact lc_997 hR  (fun σ' h => ⟨h, rfl⟩)) hw hl
    | 16, _ =>
      refine lv_tableIn (off := 946) (tgt := 1041) hx hb dL_law_95 (by decide) (by decide) (by decide) (by decide) ?_
      exact wk_law_1041 C hC hM hO21 hO22 (by omega) (by omega) (K := fun σ' x => RC (ck_nc G) bb (200 * t + 200) cap σ' σ' ∧ x = nI (5 + 6 * t)) tail (by rw [hnb]; exact lc_1041 hR  (fun σ' h => ⟨h, rfl⟩)) hw hl
    | 17, _ =>
      refine lv_tableIn (off := 1011) (tgt := 1106) hx hb dL_law_95 (by decide) (by decide) (by decide) (by decide) ?_
      exact wk_law_1106 C hC hM hO21 hO22 (by omega) (by omega) (K := fun σ' x => RC (ck_nc G) bb (200 * t + 200) cap σ' σ' ∧ x = nI (5 + 6 * t)) tail (by rw [hnb]; exact lc_1106 hR v1 (fun σ' h => ⟨h, rfl⟩)) hw hl
    | 18, _ =>
      refine lv_tableIn (off := 1104) (tgt := 1199) hx hb dL_law_95 (by decide) (by decide) (by decide) (by decide) ?_
      exact wk_law_1199 C hC hM hO21 hO22 (by omega) (by omega) (K := fun σ' x => RC (ck_nc G) bb (200 * t + 200) cap σ' σ' ∧ x = nI (5 + 6 * t)) tail (by rw [hnb]; exact lc_1199 hR (by omega) v1 v2 (fun σ' h => ⟨h, rfl⟩)) hw hl
    | 19, _ =>
      refine lv_tableIn (off := 1179) (tgt := 1274) hx hb dL_law_95 (by decide) (by decide) (by decide) (by decide) ?_
      exact wk_law_1274 C hC hM hO21 hO22 (by omega) (by omega) (K := fun σ' x => RC (ck_nc G) bb (200 * t + 200) cap σ' σ' ∧ x = nI (5 + 6 * t)) tail (by rw [hnb]; exact lc_1274 hR v1 (fun σ' h => ⟨h, rfl⟩)) hw hl
    | 20, _ =>
      refine lv_tableIn (off := 1235) (tgt := 1330) hx hb dL_law_95 (by decide) (by decide) (by decide) (by decide) ?_
      exact wk_law_1330 C hC hM hO21 hO22 (by omega) (by omega) (K := fun σ' x => RC (ck_nc G) bb (200 * t + 200) cap σ' σ' ∧ x = nI (5 + 6 * t)) tail (by rw [hnb]; exact lc_1330 hR  (fun σ' h => ⟨h, rfl⟩)) hw hl
    | 21, _ =>
      refine lv_tableIn (off := 1279) (tgt := 1374) hx hb dL_law_95 (by decide) (by decide) (by decide) (by decide) ?_
      exact wk_law_1374 C hC hM hO21 hO22 (by omega) (by omega) (K := fun σ' x => RC (ck_nc G) bb (200 * t + 200) cap σ' σ' ∧ x = nI (5 + 6 * t)) tail (by rw [hnb]; exact lc_1374 hR v1 (fun σ' h => ⟨h, rfl⟩)) hw hl
    | 22, _ =>
      refine lv_tableIn (off := 1335) (tgt := 1430) hx hb dL_law_95 (by decide) (by decide) (by decide) (by decide) ?_
      exact wk_law_1430 C hC hM hO21 hO22 (by omega) (by omega) (K := fun σ' x => RC (ck_nc G) bb (200 * t + 200) cap σ' σ' ∧ x = nI (5 + 6 * t)) tail (by rw [hnb]; exact lc_1430 hR v1 (fun σ' h => ⟨h, rfl⟩)) hw hl
    | 23, _ =>
      refine lv_tableIn (off := 1391) (tgt := 1486) hx hb dL_law_95 (by decide) (by decide) (by decide) (by decide) ?_
      exact wk_law_1486 C hC hM hO21 hO22 (by omega) (by omega) (K := fun σ' x => RC (ck_nc G) bb (200 * t + 200) cap σ' σ' ∧ x = nI (5 + 6 * t)) tail (by rw [hnb]; exact lc_1486 hR v1 v2 (fun σ' h => ⟨h, rfl⟩)) hw hl
    | k + 24, hk =>
      refine lv_tableOut (tgt := 1534) hx hb dL_law_95 (Or.inr (by rw [nI_toInt (by omega)]; omega)) (by decide) ?_
      refine W.widen (k := 5000 + 20 * t + 20) (n := 5000 + 200 * t + 200) (by omega) (by omega) ?_
      exact tail σ _ H locs ls ⟨RC_mono (by omega) hR, rfl⟩ hw hl
theorem law_loop {p : Program} {l : Launch} {e : Env} {s : State} {m : MethodId} {below : List Frame} {meth : Method} {c : Code} {G : ck_G} {b L bb : Nat} {xs : Nat → Int32} {cap : Int} (C : ck_LX p l s m meth c #[Value.ref b] b L xs G) (hL : L ≤ 389) (hC : ck_inC G) (hM : ck_inM G) (hO21 : (21, 0) ∈ ck_Ls G) (hO22 : (22, 0) ∈ ck_Ls G) (hnb : ck_nb G = 32 * bb) (hA : ∀ q, ck_A G s.heap.size q → s.heap.size ≤ q) :
    ∀ (r t : Nat), t + r = 64 → ∀ (σ : ck_S) (x5 : Int32) (H : Heap) (locs : List Loc) (ls : Array Slot), RC (ck_nc G) bb (200 * t) cap σ σ → x5 = nI (5 + 6 * t) → ck_H G s H locs σ → lv_has ls 9 [(0, .ref b), (1, .ref (ck_ad G 0 0)), (2, .ref (ck_ad G 10 0)), (3, .ref (ck_ad G 21 0)), (4, .ref (ck_ad G 22 0)), (5, .int x5)] → W p l e room_1 s m #[Value.ref b] below meth c H locs (5000 + 20 * t) (5000 + 200 * t) (lw_Z below #[Value.ref b] s) (F0 m 78 ls [])
  | 0, t, h, σ, x5, H, locs, ls, hR, h5, hw, hl => law_step C hL hC hM hO21 hO22 hnb hA (t := t) (by omega) (fun q => absurd q (by omega)) hR h5 hw hl
  | r + 1, t, h, σ, x5, H, locs, ls, hR, h5, hw, hl => law_step C hL hC hM hO21 hO22 hnb hA (t := t) (by omega) (fun _ σ' x' H' locs' ls' hR' h5' hw' hl' => by
    have q := law_loop C hL hC hM hO21 hO22 hnb hA (e := e) (below := below) r (t + 1) (by omega) σ' x' H' locs' ls' (by rw [show 200 * (t + 1) = 200 * t + 200 by omega]; exact hR') h5' hw' hl'
    rw [show 5000 + 20 * (t + 1) = 5000 + 20 * t + 20 by omega, show 5000 + 200 * (t + 1) = 5000 + 200 * t + 200 by omega] at q
    exact q) hR h5 hw hl
