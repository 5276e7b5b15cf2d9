/-- what the law's body has at hand -/
def ck_LX (p : Program) (l : Launch) (s : State) (m : MethodId) (meth : Method) (c : Code) (args : Array Value) (b L : Nat) (xs : Nat → Int32) (G : ck_G) : Prop :=
  p.tables.exec = Jvm.exec ∧ c.code = cL_law ∧ meth.sig.returnType = some .boolean ∧ c.maxLocals = 9 ∧ s.vm.findClass RL = some m.cls ∧ (∀ w ∈ lw_tbl, w.before args s = true) ∧ meth.locks = false ∧ l.stackTraces = false ∧ ck_E (ck_A G s.heap.size) s ∧ va_X b L xs s s.heap ∧ b < s.heap.size ∧ ¬ ck_A G s.heap.size b
theorem ck_wcallSi {p : Program} {l : Launch} {e : Env} {R : Room} {s : State} {m : MethodId} {args : Array Value} {below : List Frame} {meth : Method} {c : Code} {H : Heap} {locs : List Loc} {cells slots : Nat} {Q : State → Prop} {cc bytes : ByteArray} {pc nL maxL n index mc ms : Nat} {ls : Array Slot} {rest st As : List Value} {G : ck_G} {σ : ck_S} {own : String} {y : MethodName} {ws Ts : List Cond} {rm : Room} {ret : Option FieldType} {hh : List (Nat × Nat × Nat × Nat)}
    (S : CallFix p m c cc nL s args Ts own) (hw : ck_H G s H locs σ) (hE : ck_E (ck_A G s.heap.size) s) {post : Int32 → ck_S → Prop} (hM : ck_MEi l y ws rm G σ As post mc ms) (cw : vx_CSW R s args own index y bytes maxL ret hh ws rm mc ms n)
    (hn : As.length = n) (hsize : ls.size = nL) (hst : st = As.reverse ++ rest) (hW : (rest.map fun v => v.category).sum ≤ 8) (hdg : decode cc pc = .ok (.invokestatic index, 3)) (hf : cells + mc ≤ R.cells ∧ slots + ms ≤ R.slots)
    (kk : ∀ (r : Int32) (τ : ck_S) (H1 : Heap) (locs1 : List Loc), post r τ → ck_H G s H1 locs1 τ → W p l e R s m args below meth c H1 locs1 (cells + mc) (slots + ms) Q (F0 m (pc + 3) ls (.int r :: rest))) : W p l e R s m args below meth c H locs cells slots Q (F0 m pc ls st) :=
  va_calli (vx_runSW (hh := hh) (As := As) (rest := rest) S (hM H.size) cw (ck_preSE hw hE _) rfl hn hsize hst (by show 2 * 0 + _ ≤ 8; omega) hdg hf) hw.2.2.2 (fun q _ h => ck_grow hw q h) (ck_grow hw) (fun r u t H1 locs1 ht hvm hp hB hz hk hS => kk r u H1 locs1 hp (ck_back hw ht hB hS))
theorem tx_0 : Cond.constantLong RL 103 (4294967295) ∈ lw_tbl := tm_5 (List.mem_of_getElem? (i := 157) (by decide +kernel))
theorem tx_1 : Cond.constantDouble RL 117 (4593671619917905920) ∈ lw_tbl := tm_5 (List.mem_of_getElem? (i := 158) (by decide +kernel))
def sp_law_204 (nc nb : Nat) (xs : Nat → Int32) (L : Nat) (K : ck_S → Int32 → Prop) (σ : ck_S) (x5 : Int32) : Prop := sp_X6_chips nc nb σ (fun x_2 σ1 => sp_X7_chips nc nb σ1 (fun x_4 σ3 => ((x_2 = x_4 → (K σ3 x5)) ∧ (¬ x_2 = x_4 → (False)))))
def sp_law_217 (nc nb : Nat) (xs : Nat → Int32) (L : Nat) (K : ck_S → Int32 → Prop) (σ : ck_S) (x5 : Int32) : Prop := ∀ x_1, x_1 = (x5 + 1) → (vp_in x_1 L) ∧ ∀ x_3, x_3 = (x5 + 2) → (vp_in x_3 L) ∧ ∀ x_5, x_5 = (x5 + 3) → (vp_in x_5 L) ∧ ∀ x_7, x_7 = (x5 + 4) → (vp_in x_7 L) ∧ sp_X6_seal nc nb σ ((((xs (Int32.toNatClampNeg x_1)).toInt64) <<< ((32 : Int32).toInt64 &&& 63)) ||| (((xs (Int32.toNatClampNeg x_3)).toInt64) &&& 4294967295)) ((((xs (Int32.toNatClampNeg x_5)).toInt64) <<< ((32 : Int32).toInt64 &&& 63)) ||| (((xs (Int32.toNatClampNeg x_7)).toInt64) &&& 4294967295)) (fun x_10 σ9 => ∀ x_11, x_11 = (x5 + 1) → (vp_in x_11 L) ∧ ∀ x_13, x_13 = (x5 + 2) → (vp_in x_13 L) ∧ ∀ x_15, x_15 = (x5 + 3) → (vp_in x_15 L) ∧ ∀ x_17, x_17 = (x5 + 4) → (vp_in x_17 L) ∧ sp_X7_seal nc nb σ9 ((((xs (Int32.toNatClampNeg x_11)).toInt64) <<< ((32 : Int32).toInt64 &&& 63)) ||| (((xs (Int32.toNatClampNeg x_13)).toInt64) &&& 4294967295)) ((((xs (Int32.toNatClampNeg x_15)).toInt64) <<< ((32 : Int32).toInt64 &&& 63)) ||| (((xs (Int32.toNatClampNeg x_17)).toInt64) &&& 4294967295)) (fun x_20 σ19 => ((x_10 = x_20 → (K σ19 x5)) ∧ (¬ x_10 = x_20 → (False)))))
def sp_law_466 (nc nb : Nat) (xs : Nat → Int32) (L : Nat) (K : ck_S → Int32 → Prop) (σ : ck_S) (x5 : Int32) : Prop := K σ x5
def sp_law_460 (nc nb : Nat) (xs : Nat → Int32) (L : Nat) (K : ck_S → Int32 → Prop) (σ : ck_S) (x5 : Int32) (s0 : Int64) (s1 : Int64) : Prop := (((lg_cmp s1 s0) = 0 → (sp_law_466 nc nb xs L K σ x5)) ∧ (¬ (lg_cmp s1 s0) = 0 → (False)))
def sp_law_318 (nc nb : Nat) (xs : Nat → Int32) (L : Nat) (K : ck_S → Int32 → Prop) (σ : ck_S) (x5 : Int32) : Prop := ∀ x_1, x_1 = (x5 + 1) → (vp_in x_1 L) ∧ ∀ x_3, x_3 = (x5 + 2) → (vp_in x_3 L) ∧ ∀ x_5, x_5 = (x5 + 3) → (vp_in x_5 L) ∧ ∀ x_7, x_7 = (x5 + 4) → (vp_in x_7 L) ∧ ∀ x_9, x_9 = (x5 + 5) → (vp_in x_9 L) ∧ sp_L_reply nc nb σ (xs (Int32.toNatClampNeg x_1)) ((((xs (Int32.toNatClampNeg x_3)).toInt64) <<< ((32 : Int32).toInt64 &&& 63)) ||| (((xs (Int32.toNatClampNeg x_5)).toInt64) &&& 4294967295)) ((((xs (Int32.toNatClampNeg x_7)).toInt64) <<< ((32 : Int32).toInt64 &&& 63)) ||| (((xs (Int32.toNatClampNeg x_9)).toInt64) &&& 4294967295)) (fun x_12 σ11 => ∀ x_13, x_13 = (x5 + 1) → (vp_in x_13 L) ∧ ∀ x_15, x_15 = (x5 + 2) → (vp_in x_15 L) ∧ ∀ x_17, x_17 = (x5 + 3) → (vp_in x_17 L) ∧ ∀ x_19, x_19 = (x5 + 4) → (vp_in x_19 L) ∧ ∀ x_21, x_21 = (x5 + 5) → (vp_in x_21 L) ∧ sp_X7_reply nc nb σ11 (xs (Int32.toNatClampNeg x_13)) ((((xs (Int32.toNatClampNeg x_15)).toInt64) <<< ((32 : Int32).toInt64 &&& 63)) ||| (((xs (Int32.toNatClampNeg x_17)).toInt64) &&& 4294967295)) ((((xs (Int32.toNatClampNeg x_19)).toInt64) <<< ((32 : Int32).toInt64 &&& 63)) ||| (((xs (Int32.toNatClampNeg x_21)).toInt64) &&& 4294967295)) (fun x_24 σ23 => sp_X7_thrown nc nb σ23 (fun x_26 σ25 => ((x_26 = x_12 → (((¬ x_12 = 0 → (sp_law_466 nc nb xs L K σ25 x5)) ∧ (x_12 = 0 → ((vp_in 0 1) ∧ ∀ y_30, y_30 = (ck_gj σ25 21 0 (Int32.toNatClampNeg 0)) → ((x_24 = 0 → (sp_law_460 nc nb xs L K σ25 x5 0 y_30)) ∧ (¬ x_24 = 0 → (sp_law_460 nc nb xs L K σ25 x5 1 y_30)))))))) ∧ (¬ x_26 = x_12 → (False))))))
def sp_law_469 (nc nb : Nat) (xs : Nat → Int32) (L : Nat) (K : ck_S → Int32 → Prop) (σ : ck_S) (x5 : Int32) : Prop := ∀ x_1, x_1 = (x5 + 1) → (vp_in x_1 L) ∧ (vf_n64 (FP.dmul (FP.i2d (xs (Int32.toNatClampNeg x_1))) 4593671619917905920)) ∧ sp_L_current nc nb σ (FP.dmul (FP.i2d (xs (Int32.toNatClampNeg x_1))) 4593671619917905920) (fun x_5 σ4 => ∀ x_6, x_6 = (x5 + 1) → (vp_in x_6 L) ∧ (vf_n64 (FP.dmul (FP.i2d (xs (Int32.toNatClampNeg x_6))) 4593671619917905920)) ∧ sp_X7_current nc nb σ4 (FP.dmul (FP.i2d (xs (Int32.toNatClampNeg x_6))) 4593671619917905920) (fun σ9 => sp_X7_thrown nc nb σ9 (fun x_12 σ11 => ((x_12 = x_5 → (K σ11 x5)) ∧ (¬ x_12 = x_5 → (False))))))
def sp_law_515 (nc nb : Nat) (xs : Nat → Int32) (L : Nat) (K : ck_S → Int32 → Prop) (σ : ck_S) (x5 : Int32) : Prop := ∀ x_1, x_1 = (x5 + 1) → (vp_in x_1 L) ∧ ∀ x_3, x_3 = (x5 + 2) → (vp_in x_3 L) ∧ (vf_n64 (FP.dmul (FP.i2d (xs (Int32.toNatClampNeg x_3))) 4593671619917905920)) ∧ sp_L_warm nc nb σ (xs (Int32.toNatClampNeg x_1)) (FP.dmul (FP.i2d (xs (Int32.toNatClampNeg x_3))) 4593671619917905920) (fun x_7 σ6 => ∀ x_8, x_8 = (x5 + 1) → (vp_in x_8 L) ∧ ∀ x_10, x_10 = (x5 + 2) → (vp_in x_10 L) ∧ (vf_n64 (FP.dmul (FP.i2d (xs (Int32.toNatClampNeg x_10))) 4593671619917905920)) ∧ sp_X7_warm nc nb σ6 (xs (Int32.toNatClampNeg x_8)) (FP.dmul (FP.i2d (xs (Int32.toNatClampNeg x_10))) 4593671619917905920) (fun σ13 => sp_X7_thrown nc nb σ13 (fun x_16 σ15 => ((x_16 = x_7 → (K σ15 x5)) ∧ (¬ x_16 = x_7 → (False))))))
def sp_law_573 (nc nb : Nat) (xs : Nat → Int32) (L : Nat) (K : ck_S → Int32 → Prop) (σ : ck_S) (x5 : Int32) : Prop := ∀ x_1, x_1 = (x5 + 1) → (vp_in x_1 L) ∧ sp_L_bus nc nb σ (xs (Int32.toNatClampNeg x_1)) (fun x_4 σ3 => ∀ x_5, x_5 = (x5 + 1) → (vp_in x_5 L) ∧ sp_X7_bus nc nb σ3 (xs (Int32.toNatClampNeg x_5)) (fun σ7 => sp_X7_thrown nc nb σ7 (fun x_10 σ9 => ((x_10 = x_4 → (K σ9 x5)) ∧ (¬ x_10 = x_4 → (False))))))
def sp_law_644 (nc nb : Nat) (xs : Nat → Int32) (L : Nat) (K : ck_S → Int32 → Prop) (σ : ck_S) (x5 : Int32) (x6 : Int32) (s0 : Int32) : Prop := sp_X7_want nc nb σ s0 (fun σ1 => sp_X7_thrown nc nb σ1 (fun x_4 σ3 => ((x_4 = x6 → (K σ3 x5)) ∧ (¬ x_4 = x6 → (False)))))
def sp_law_624 (nc nb : Nat) (xs : Nat → Int32) (L : Nat) (K : ck_S → Int32 → Prop) (σ : ck_S) (x5 : Int32) (s0 : Int32) : Prop := sp_L_want nc nb σ s0 (fun x_2 σ1 => ∀ x_3, x_3 = (x5 + 1) → (vp_in x_3 L) ∧ (((xs (Int32.toNatClampNeg x_3)) = 0 → (sp_law_644 nc nb xs L K σ1 x5 x_2 0)) ∧ (¬ (xs (Int32.toNatClampNeg x_3)) = 0 → (sp_law_644 nc nb xs L K σ1 x5 x_2 1))))
def sp_law_609 (nc nb : Nat) (xs : Nat → Int32) (L : Nat) (K : ck_S → Int32 → Prop) (σ : ck_S) (x5 : Int32) : Prop := ∀ x_1, x_1 = (x5 + 1) → (vp_in x_1 L) ∧ (((xs (Int32.toNatClampNeg x_1)) = 0 → (sp_law_624 nc nb xs L K σ x5 0)) ∧ (¬ (xs (Int32.toNatClampNeg x_1)) = 0 → (sp_law_624 nc nb xs L K σ x5 1)))
def sp_law_661 (nc nb : Nat) (xs : Nat → Int32) (L : Nat) (K : ck_S → Int32 → Prop) (σ : ck_S) (x5 : Int32) : Prop := ∀ x_1, x_1 = (x5 + 1) → (vp_in x_1 L) ∧ (vf_n64 (FP.dmul (FP.i2d (xs (Int32.toNatClampNeg x_1))) 4593671619917905920)) ∧ sp_L_set nc nb σ (FP.dmul (FP.i2d (xs (Int32.toNatClampNeg x_1))) 4593671619917905920) (fun x_5 σ4 => ∀ x_6, x_6 = (x5 + 1) → (vp_in x_6 L) ∧ (vf_n64 (FP.dmul (FP.i2d (xs (Int32.toNatClampNeg x_6))) 4593671619917905920)) ∧ sp_X7_set nc nb σ4 (FP.dmul (FP.i2d (xs (Int32.toNatClampNeg x_6))) 4593671619917905920) (fun σ9 => sp_X7_thrown nc nb σ9 (fun x_12 σ11 => ((x_12 = x_5 → (K σ11 x5)) ∧ (¬ x_12 = x_5 → (False))))))
def sp_law_760 (nc nb : Nat) (xs : Nat → Int32) (L : Nat) (K : ck_S → Int32 → Prop) (σ : ck_S) (x5 : Int32) : Prop := K σ x5
def sp_law_707 (nc nb : Nat) (xs : Nat → Int32) (L : Nat) (K : ck_S → Int32 → Prop) (σ : ck_S) (x5 : Int32) : Prop := ∀ x_1, x_1 = (x5 + 1) → (vp_in x_1 L) ∧ sp_L_tick nc nb σ (xs (Int32.toNatClampNeg x_1)) (fun x_4 σ3 => ∀ x_5, x_5 = (x5 + 1) → (vp_in x_5 L) ∧ sp_X7_tick nc nb σ3 (xs (Int32.toNatClampNeg x_5)) (fun x_8 σ7 => sp_X7_thrown nc nb σ7 (fun x_10 σ9 => ((x_10 = x_4 → (((¬ x_4 = 0 → (sp_law_760 nc nb xs L K σ9 x5)) ∧ (x_4 = 0 → ((vp_in 0 1) ∧ (((lg_cmp (ck_gj σ9 21 0 (Int32.toNatClampNeg 0)) (x_8.toInt64)) = 0 → (sp_law_760 nc nb xs L K σ9 x5)) ∧ (¬ (lg_cmp (ck_gj σ9 21 0 (Int32.toNatClampNeg 0)) (x_8.toInt64)) = 0 → (False)))))))) ∧ (¬ x_10 = x_4 → (False))))))
def sp_law_823 (nc nb : Nat) (xs : Nat → Int32) (L : Nat) (K : ck_S → Int32 → Prop) (σ : ck_S) (x5 : Int32) : Prop := K σ x5
def sp_law_817 (nc nb : Nat) (xs : Nat → Int32) (L : Nat) (K : ck_S → Int32 → Prop) (σ : ck_S) (x5 : Int32) (s0 : Int64) (s1 : Int64) : Prop := (((lg_cmp s1 s0) = 0 → (sp_law_823 nc nb xs L K σ x5)) ∧ (¬ (lg_cmp s1 s0) = 0 → (False)))
def sp_law_763 (nc nb : Nat) (xs : Nat → Int32) (L : Nat) (K : ck_S → Int32 → Prop) (σ : ck_S) (x5 : Int32) : Prop := ∀ x_1, x_1 = (x5 + 1) → (vp_in x_1 L) ∧ sp_L_reset nc nb σ (xs (Int32.toNatClampNeg x_1)) (fun x_4 σ3 => ∀ x_5, x_5 = (x5 + 1) → (vp_in x_5 L) ∧ sp_X7_reset nc nb σ3 (xs (Int32.toNatClampNeg x_5)) (fun x_8 σ7 => sp_X7_thrown nc nb σ7 (fun x_10 σ9 => ((x_10 = x_4 → (((¬ x_4 = 0 → (sp_law_823 nc nb xs L K σ9 x5)) ∧ (x_4 = 0 → ((vp_in 0 1) ∧ ∀ y_14, y_14 = (ck_gj σ9 21 0 (Int32.toNatClampNeg 0)) → ((x_8 = 0 → (sp_law_817 nc nb xs L K σ9 x5 0 y_14)) ∧ (¬ x_8 = 0 → (sp_law_817 nc nb xs L K σ9 x5 1 y_14)))))))) ∧ (¬ x_10 = x_4 → (False))))))
def sp_law_826 (nc nb : Nat) (xs : Nat → Int32) (L : Nat) (K : ck_S → Int32 → Prop) (σ : ck_S) (x5 : Int32) : Prop := ∀ x_1, x_1 = (x5 + 1) → (vp_in x_1 L) ∧ sp_L_cut nc nb σ (xs (Int32.toNatClampNeg x_1)) (fun x_4 σ3 => ∀ x_5, x_5 = (x5 + 1) → (vp_in x_5 L) ∧ sp_X7_cut nc nb σ3 (xs (Int32.toNatClampNeg x_5)) (fun σ7 => sp_X7_thrown nc nb σ7 (fun x_10 σ9 => ((x_10 = x_4 → (K σ9 x5)) ∧ (¬ x_10 = x_4 → (False))))))
def sp_law_862 (nc nb : Nat) (xs : Nat → Int32) (L : Nat) (K : ck_S → Int32 → Prop) (σ : ck_S) (x5 : Int32) : Prop := sp_X6_power nc nb σ (fun x_2 σ1 => sp_X7_power nc nb σ1 (fun x_4 σ3 => ((x_2 = x_4 → (K σ3 x5)) ∧ (¬ x_2 = x_4 → (False)))))
def sp_law_875 (nc nb : Nat) (xs : Nat → Int32) (L : Nat) (K : ck_S → Int32 → Prop) (σ : ck_S) (x5 : Int32) : Prop := sp_X6_off nc nb σ (fun x_2 σ1 => sp_X7_off nc nb σ1 (fun x_4 σ3 => ((x_2 = x_4 → (K σ3 x5)) ∧ (¬ x_2 = x_4 → (False)))))
def sp_law_929 (nc nb : Nat) (xs : Nat → Int32) (L : Nat) (K : ck_S → Int32 → Prop) (σ : ck_S) (x5 : Int32) : Prop := K σ x5
def sp_law_888 (nc nb : Nat) (xs : Nat → Int32) (L : Nat) (K : ck_S → Int32 → Prop) (σ : ck_S) (x5 : Int32) : Prop := sp_L_time nc nb σ (fun x_2 σ1 => sp_X7_time nc nb σ1 (fun x_4 σ3 => sp_X7_thrown nc nb σ3 (fun x_6 σ5 => ((x_6 = x_2 → (((¬ x_2 = 0 → (sp_law_929 nc nb xs L K σ5 x5)) ∧ (x_2 = 0 → ((vp_in 0 1) ∧ (((lg_cmp (ck_gj σ5 21 0 (Int32.toNatClampNeg 0)) (x_4.toInt64)) = 0 → (sp_law_929 nc nb xs L K σ5 x5)) ∧ (¬ (lg_cmp (ck_gj σ5 21 0 (Int32.toNatClampNeg 0)) (x_4.toInt64)) = 0 → (False)))))))) ∧ (¬ x_6 = x_2 → (False))))))
def sp_law_994 (nc nb : Nat) (xs : Nat → Int32) (L : Nat) (K : ck_S → Int32 → Prop) (σ : ck_S) (x5 : Int32) : Prop := K σ x5
def sp_law_932 (nc nb : Nat) (xs : Nat → Int32) (L : Nat) (K : ck_S → Int32 → Prop) (σ : ck_S) (x5 : Int32) : Prop := sp_L_charge nc nb σ (fun x_2 σ1 => sp_X7_charge nc nb σ1 (fun z_4 σ3 => sp_X7_thrown nc nb σ3 (fun x_6 σ5 => ((x_6 = x_2 → (((¬ x_2 = 0 → (sp_law_994 nc nb xs L K σ5 x5)) ∧ (x_2 = 0 → ((vp_in 0 1) ∧ (((Op.cmpValue (FP.dcmp (ck_gd σ5 22 0 (Int32.toNatClampNeg 0)) z_4) .l) = 0 → (sp_law_994 nc nb xs L K σ5 x5)) ∧ (¬ (Op.cmpValue (FP.dcmp (ck_gd σ5 22 0 (Int32.toNatClampNeg 0)) z_4) .l) = 0 → ((vp_in 0 1) ∧ (vp_in 0 1) ∧ (((Op.cmpValue (FP.dcmp (ck_gd σ5 22 0 (Int32.toNatClampNeg 0)) (ck_gd σ5 22 0 (Int32.toNatClampNeg 0))) .l) = 0 → (False)) ∧ (¬ (Op.cmpValue (FP.dcmp (ck_gd σ5 22 0 (Int32.toNatClampNeg 0)) (ck_gd σ5 22 0 (Int32.toNatClampNeg 0))) .l) = 0 → (((¬ (Op.cmpValue (FP.dcmp z_4 z_4) .l) = 0 → (sp_law_994 nc nb xs L K σ5 x5)) ∧ ((Op.cmpValue (FP.dcmp z_4 z_4) .l) = 0 → (False)))))))))))))) ∧ (¬ x_6 = x_2 → (False))))))
def sp_law_1038 (nc nb : Nat) (xs : Nat → Int32) (L : Nat) (K : ck_S → Int32 → Prop) (σ : ck_S) (x5 : Int32) : Prop := K σ x5
def sp_law_997 (nc nb : Nat) (xs : Nat → Int32) (L : Nat) (K : ck_S → Int32 → Prop) (σ : ck_S) (x5 : Int32) : Prop := sp_L_percent nc nb σ (fun x_2 σ1 => sp_X7_percent nc nb σ1 (fun x_4 σ3 => sp_X7_thrown nc nb σ3 (fun x_6 σ5 => ((x_6 = x_2 → (((¬ x_2 = 0 → (sp_law_1038 nc nb xs L K σ5 x5)) ∧ (x_2 = 0 → ((vp_in 0 1) ∧ (((lg_cmp (ck_gj σ5 21 0 (Int32.toNatClampNeg 0)) (x_4.toInt64)) = 0 → (sp_law_1038 nc nb xs L K σ5 x5)) ∧ (¬ (lg_cmp (ck_gj σ5 21 0 (Int32.toNatClampNeg 0)) (x_4.toInt64)) = 0 → (False)))))))) ∧ (¬ x_6 = x_2 → (False))))))
def sp_law_1103 (nc nb : Nat) (xs : Nat → Int32) (L : Nat) (K : ck_S → Int32 → Prop) (σ : ck_S) (x5 : Int32) : Prop := K σ x5
def sp_law_1041 (nc nb : Nat) (xs : Nat → Int32) (L : Nat) (K : ck_S → Int32 → Prop) (σ : ck_S) (x5 : Int32) : Prop := sp_L_through nc nb σ (fun x_2 σ1 => sp_X7_through nc nb σ1 (fun z_4 σ3 => sp_X7_thrown nc nb σ3 (fun x_6 σ5 => ((x_6 = x_2 → (((¬ x_2 = 0 → (sp_law_1103 nc nb xs L K σ5 x5)) ∧ (x_2 = 0 → ((vp_in 0 1) ∧ (((Op.cmpValue (FP.dcmp (ck_gd σ5 22 0 (Int32.toNatClampNeg 0)) z_4) .l) = 0 → (sp_law_1103 nc nb xs L K σ5 x5)) ∧ (¬ (Op.cmpValue (FP.dcmp (ck_gd σ5 22 0 (Int32.toNatClampNeg 0)) z_4) .l) = 0 → ((vp_in 0 1) ∧ (vp_in 0 1) ∧ (((Op.cmpValue (FP.dcmp (ck_gd σ5 22 0 (Int32.toNatClampNeg 0)) (ck_gd σ5 22 0 (Int32.toNatClampNeg 0))) .l) = 0 → (False)) ∧ (¬ (Op.cmpValue (FP.dcmp (ck_gd σ5 22 0 (Int32.toNatClampNeg 0)) (ck_gd σ5 22 0 (Int32.toNatClampNeg 0))) .l) = 0 → (((¬ (Op.cmpValue (FP.dcmp z_4 z_4) .l) = 0 → (sp_law_1103 nc nb xs L K σ5 x5)) ∧ ((Op.cmpValue (FP.dcmp z_4 z_4) .l) = 0 → (False)))))))))))))) ∧ (¬ x_6 = x_2 → (False))))))
def sp_law_1196 (nc nb : Nat) (xs : Nat → Int32) (L : Nat) (K : ck_S → Int32 → Prop) (σ : ck_S) (x5 : Int32) : Prop := K σ x5
def sp_law_1143 (nc nb : Nat) (xs : Nat → Int32) (L : Nat) (K : ck_S → Int32 → Prop) (σ : ck_S) (x5 : Int32) (x6 : Int32) (s0 : Int32) : Prop := sp_X7_allowed nc nb σ s0 (fun z_2 σ1 => sp_X7_thrown nc nb σ1 (fun x_4 σ3 => ((x_4 = x6 → (((¬ x6 = 0 → (sp_law_1196 nc nb xs L K σ3 x5)) ∧ (x6 = 0 → ((vp_in 0 1) ∧ (((Op.cmpValue (FP.dcmp (ck_gd σ3 22 0 (Int32.toNatClampNeg 0)) z_2) .l) = 0 → (sp_law_1196 nc nb xs L K σ3 x5)) ∧ (¬ (Op.cmpValue (FP.dcmp (ck_gd σ3 22 0 (Int32.toNatClampNeg 0)) z_2) .l) = 0 → ((vp_in 0 1) ∧ (vp_in 0 1) ∧ (((Op.cmpValue (FP.dcmp (ck_gd σ3 22 0 (Int32.toNatClampNeg 0)) (ck_gd σ3 22 0 (Int32.toNatClampNeg 0))) .l) = 0 → (False)) ∧ (¬ (Op.cmpValue (FP.dcmp (ck_gd σ3 22 0 (Int32.toNatClampNeg 0)) (ck_gd σ3 22 0 (Int32.toNatClampNeg 0))) .l) = 0 → (((¬ (Op.cmpValue (FP.dcmp z_2 z_2) .l) = 0 → (sp_law_1196 nc nb xs L K σ3 x5)) ∧ ((Op.cmpValue (FP.dcmp z_2 z_2) .l) = 0 → (False)))))))))))))) ∧ (¬ x_4 = x6 → (False)))))
def sp_law_1121 (nc nb : Nat) (xs : Nat → Int32) (L : Nat) (K : ck_S → Int32 → Prop) (σ : ck_S) (x5 : Int32) (s0 : Int32) : Prop := sp_L_allowed nc nb σ s0 (fun x_2 σ1 => ∀ x_3, x_3 = (x5 + 1) → (vp_in x_3 L) ∧ (((xs (Int32.toNatClampNeg x_3)) = 0 → (sp_law_1143 nc nb xs L K σ1 x5 x_2 0)) ∧ (¬ (xs (Int32.toNatClampNeg x_3)) = 0 → (sp_law_1143 nc nb xs L K σ1 x5 x_2 1))))
def sp_law_1106 (nc nb : Nat) (xs : Nat → Int32) (L : Nat) (K : ck_S → Int32 → Prop) (σ : ck_S) (x5 : Int32) : Prop := ∀ x_1, x_1 = (x5 + 1) → (vp_in x_1 L) ∧ (((xs (Int32.toNatClampNeg x_1)) = 0 → (sp_law_1121 nc nb xs L K σ x5 0)) ∧ (¬ (xs (Int32.toNatClampNeg x_1)) = 0 → (sp_law_1121 nc nb xs L K σ x5 1)))
def sp_law_1271 (nc nb : Nat) (xs : Nat → Int32) (L : Nat) (K : ck_S → Int32 → Prop) (σ : ck_S) (x5 : Int32) : Prop := K σ x5
def sp_law_1265 (nc nb : Nat) (xs : Nat → Int32) (L : Nat) (K : ck_S → Int32 → Prop) (σ : ck_S) (x5 : Int32) (s0 : Int64) (s1 : Int64) : Prop := (((lg_cmp s1 s0) = 0 → (sp_law_1271 nc nb xs L K σ x5)) ∧ (¬ (lg_cmp s1 s0) = 0 → (False)))
def sp_law_1199 (nc nb : Nat) (xs : Nat → Int32) (L : Nat) (K : ck_S → Int32 → Prop) (σ : ck_S) (x5 : Int32) : Prop := ∀ x_1, x_1 = (x5 + 1) → (vp_in x_1 L) ∧ ∀ x_3, x_3 = (x5 + 2) → (vp_in x_3 L) ∧ sp_L_valid nc nb σ (xs (Int32.toNatClampNeg x_1)) (xs (Int32.toNatClampNeg x_3)) (fun x_6 σ5 => ∀ x_7, x_7 = (x5 + 1) → (vp_in x_7 L) ∧ ∀ x_9, x_9 = (x5 + 2) → (vp_in x_9 L) ∧ sp_X7_valid nc nb σ5 (xs (Int32.toNatClampNeg x_7)) (xs (Int32.toNatClampNeg x_9)) (fun x_12 σ11 => sp_X7_thrown nc nb σ11 (fun x_14 σ13 => ((x_14 = x_6 → (((¬ x_6 = 0 → (sp_law_1271 nc nb xs L K σ13 x5)) ∧ (x_6 = 0 → ((vp_in 0 1) ∧ ∀ y_18, y_18 = (ck_gj σ13 21 0 (Int32.toNatClampNeg 0)) → ((x_12 = 0 → (sp_law_1265 nc nb xs L K σ13 x5 0 y_18)) ∧ (¬ x_12 = 0 → (sp_law_1265 nc nb xs L K σ13 x5 1 y_18)))))))) ∧ (¬ x_14 = x_6 → (False))))))
def sp_law_1327 (nc nb : Nat) (xs : Nat → Int32) (L : Nat) (K : ck_S → Int32 → Prop) (σ : ck_S) (x5 : Int32) : Prop := K σ x5
def sp_law_1274 (nc nb : Nat) (xs : Nat → Int32) (L : Nat) (K : ck_S → Int32 → Prop) (σ : ck_S) (x5 : Int32) : Prop := ∀ x_1, x_1 = (x5 + 1) → (vp_in x_1 L) ∧ sp_L_bleeding nc nb σ (xs (Int32.toNatClampNeg x_1)) (fun x_4 σ3 => ∀ x_5, x_5 = (x5 + 1) → (vp_in x_5 L) ∧ sp_X7_bleeding nc nb σ3 (xs (Int32.toNatClampNeg x_5)) (fun x_8 σ7 => sp_X7_thrown nc nb σ7 (fun x_10 σ9 => ((x_10 = x_4 → (((¬ x_4 = 0 → (sp_law_1327 nc nb xs L K σ9 x5)) ∧ (x_4 = 0 → ((vp_in 0 1) ∧ (((lg_cmp (ck_gj σ9 21 0 (Int32.toNatClampNeg 0)) (x_8.toInt64)) = 0 → (sp_law_1327 nc nb xs L K σ9 x5)) ∧ (¬ (lg_cmp (ck_gj σ9 21 0 (Int32.toNatClampNeg 0)) (x_8.toInt64)) = 0 → (False)))))))) ∧ (¬ x_10 = x_4 → (False))))))
def sp_law_1371 (nc nb : Nat) (xs : Nat → Int32) (L : Nat) (K : ck_S → Int32 → Prop) (σ : ck_S) (x5 : Int32) : Prop := K σ x5
def sp_law_1330 (nc nb : Nat) (xs : Nat → Int32) (L : Nat) (K : ck_S → Int32 → Prop) (σ : ck_S) (x5 : Int32) : Prop := sp_L_faults nc nb σ (fun x_2 σ1 => sp_X7_faults nc nb σ1 (fun x_4 σ3 => sp_X7_thrown nc nb σ3 (fun x_6 σ5 => ((x_6 = x_2 → (((¬ x_2 = 0 → (sp_law_1371 nc nb xs L K σ5 x5)) ∧ (x_2 = 0 → ((vp_in 0 1) ∧ (((lg_cmp (ck_gj σ5 21 0 (Int32.toNatClampNeg 0)) (x_4.toInt64)) = 0 → (sp_law_1371 nc nb xs L K σ5 x5)) ∧ (¬ (lg_cmp (ck_gj σ5 21 0 (Int32.toNatClampNeg 0)) (x_4.toInt64)) = 0 → (False)))))))) ∧ (¬ x_6 = x_2 → (False))))))
def sp_law_1427 (nc nb : Nat) (xs : Nat → Int32) (L : Nat) (K : ck_S → Int32 → Prop) (σ : ck_S) (x5 : Int32) : Prop := K σ x5
def sp_law_1374 (nc nb : Nat) (xs : Nat → Int32) (L : Nat) (K : ck_S → Int32 → Prop) (σ : ck_S) (x5 : Int32) : Prop := ∀ x_1, x_1 = (x5 + 1) → (vp_in x_1 L) ∧ sp_L_count nc nb σ (xs (Int32.toNatClampNeg x_1)) (fun x_4 σ3 => ∀ x_5, x_5 = (x5 + 1) → (vp_in x_5 L) ∧ sp_X7_count nc nb σ3 (xs (Int32.toNatClampNeg x_5)) (fun x_8 σ7 => sp_X7_thrown nc nb σ7 (fun x_10 σ9 => ((x_10 = x_4 → (((¬ x_4 = 0 → (sp_law_1427 nc nb xs L K σ9 x5)) ∧ (x_4 = 0 → ((vp_in 0 1) ∧ (((lg_cmp (ck_gj σ9 21 0 (Int32.toNatClampNeg 0)) (x_8.toInt64)) = 0 → (sp_law_1427 nc nb xs L K σ9 x5)) ∧ (¬ (lg_cmp (ck_gj σ9 21 0 (Int32.toNatClampNeg 0)) (x_8.toInt64)) = 0 → (False)))))))) ∧ (¬ x_10 = x_4 → (False))))))
def sp_law_1483 (nc nb : Nat) (xs : Nat → Int32) (L : Nat) (K : ck_S → Int32 → Prop) (σ : ck_S) (x5 : Int32) : Prop := K σ x5
def sp_law_1430 (nc nb : Nat) (xs : Nat → Int32) (L : Nat) (K : ck_S → Int32 → Prop) (σ : ck_S) (x5 : Int32) : Prop := ∀ x_1, x_1 = (x5 + 1) → (vp_in x_1 L) ∧ sp_L_journal nc nb σ (xs (Int32.toNatClampNeg x_1)) (fun x_4 σ3 => ∀ x_5, x_5 = (x5 + 1) → (vp_in x_5 L) ∧ sp_X7_journal nc nb σ3 (xs (Int32.toNatClampNeg x_5)) (fun x_8 σ7 => sp_X7_thrown nc nb σ7 (fun x_10 σ9 => ((x_10 = x_4 → (((¬ x_4 = 0 → (sp_law_1483 nc nb xs L K σ9 x5)) ∧ (x_4 = 0 → ((vp_in 0 1) ∧ (((lg_cmp (ck_gj σ9 21 0 (Int32.toNatClampNeg 0)) (x_8.toInt64)) = 0 → (sp_law_1483 nc nb xs L K σ9 x5)) ∧ (¬ (lg_cmp (ck_gj σ9 21 0 (Int32.toNatClampNeg 0)) (x_8.toInt64)) = 0 → (False)))))))) ∧ (¬ x_10 = x_4 → (False))))))
def sp_law_1486 (nc nb : Nat) (xs : Nat → Int32) (L : Nat) (K : ck_S → Int32 → Prop) (σ : ck_S) (x5 : Int32) : Prop := ∀ x_1, x_1 = (x5 + 1) → (vp_in x_1 L) ∧ ∀ x_3, x_3 = (x5 + 2) → (vp_in x_3 L) ∧ sp_L_spoil nc nb σ (xs (Int32.toNatClampNeg x_1)) (xs (Int32.toNatClampNeg x_3)) (fun x_6 σ5 => ∀ x_7, x_7 = (x5 + 1) → (vp_in x_7 L) ∧ ∀ x_9, x_9 = (x5 + 2) → (vp_in x_9 L) ∧ sp_X7_spoil nc nb σ5 (xs (Int32.toNatClampNeg x_7)) (xs (Int32.toNatClampNeg x_9)) (fun σ11 => sp_X7_thrown nc nb σ11 (fun x_14 σ13 => ((x_14 = x_6 → (K σ13 x5)) ∧ (¬ x_14 = x_6 → (False))))))
set_option maxHeartbeats 4000000 in
set_option maxRecDepth 100000 in
theorem wk_law_204 {p : Program} {l : Launch} {e : Env} {s : State} {m : MethodId} {args : Array Value} {below : List Frame} {meth : Method} {c : Code} {G : ck_G} {b L : Nat} {xs : Nat → Int32} {Q : State → Prop} {c0 w0 : Nat} (C : ck_LX p l s m meth c args b L xs G) (hC : ck_inC G) (hM : ck_inM G) (hO21 : (21, 0) ∈ ck_Ls G) (hO22 : (22, 0) ∈ ck_Ls G) (hc0 : c0 + 20 ≤ 600128) (hw0 : w0 + 200 ≤ 7301064) {K : ck_S → Int32 → Prop} (hK : ∀ (σ : ck_S) (x5 : Int32) (H : Heap) (locs : List Loc) (ls : Array Slot), K σ x5 → ck_H G s H locs σ → lv_has ls 9 [(0, .ref b), (1, .ref (ck_ad G 0 0)), (2, .ref (ck_ad G 10 0)), (3, .ref (ck_ad G 21 0)), (4, .ref (ck_ad G 22 0)), (5, .int x5)] → W p l e room_1 s m args below meth c H locs (c0 + 20) (w0 + 200) Q (F0 m 1534 ls [])) {σ : ck_S} {x5 : Int32} {H : Heap} {locs : List Loc} {ls : Array Slot} (h : sp_law_204 (ck_nc G) (ck_nb G) xs L K σ x5) (hw : ck_H G s H locs σ) (hl : lv_has ls 9 [(0, .ref b), (1, .ref (ck_ad G 0 0)), (2, .ref (ck_ad G 10 0)), (3, .ref (ck_ad G 21 0)), (4, .ref (ck_ad G 22 0)), (5, .int x5)]) : W p l e room_1 s m args below meth c H locs (c0 + 0) (w0 + 0) Q (F0 m 204 ls []) := by
  obtain ⟨hx, hb, hr, hml, hown, hts, hlocks, hlt, hE, hX, hbl, hbA⟩ := id C
  unfold sp_law_204 at h
  refine lv_aload_n hx hb dL_law_204 rfl (lv_at hl 1 rfl) ?_
  refine ck_callVi (rest := []) ⟨hx, hb, hml, hown, hts⟩ hw (hC.1 0 (by decide)) rfl rfl (ct_X6_chips l G hC h) (cwV 0 hts gT_X6_chips rfl rfl rfl (by decide +kernel) ⟨(Nat.le_of_ble_eq_true rfl), (Nat.le_of_ble_eq_true rfl)⟩) rfl hl.1 rfl (Nat.le_of_ble_eq_true rfl) dL_law_205 ⟨show c0 + 0 ≤ 600128 by omega, show w0 + 0 ≤ 7301064 by omega⟩ (fun x_2 σ1 H locs h hw => ?_)
  refine lv_aload_n hx hb dL_law_208 rfl (lv_at hl 2 rfl) ?_
  refine ck_callVi (rest := [.int x_2]) ⟨hx, hb, hml, hown, hts⟩ hw (hM 10 (by decide) (by decide)) rfl rfl (ct_X7_chips l G hM h) (cwV 0 hts gT_X7_chips rfl rfl rfl (by decide +kernel) ⟨(Nat.le_of_ble_eq_true rfl), (Nat.le_of_ble_eq_true rfl)⟩) rfl hl.1 rfl (Nat.le_of_ble_eq_true rfl) dL_law_209 ⟨show c0 + 0 ≤ 600128 by omega, show w0 + 0 ≤ 7301064 by omega⟩ (fun x_4 σ3 H locs h hw => ?_)
  obtain ⟨hA, hB⟩ := h
  refine lv_icmp_eq (tgt := 1534) hx hb dL_law_212 (by decide) (fun c5 => ?_) (fun c5 => ?_)
  · have h := hA c5
    refine W.widen (k := c0 + 20) (n := w0 + 200) (show c0 + 0 ≤ c0 + 20 by omega) (show w0 + 0 ≤ w0 + 200 by omega) ?_
    exact hK _ _ _ _ _ h hw (lv_sub hl [0, 1, 2, 3, 4, 5] rfl)
  · have h := hB c5
    refine lv_iconst (v := 0) hx hb dL_law_215 (by decide) ?_
    exact h.elim
set_option maxHeartbeats 4000000 in
set_option maxRecDepth 100000 in
theorem wk_law_217 {p : Program} {l : Launch} {e : Env} {s : State} {m : MethodId} {args : Array Value} {below : List Frame} {meth : Method} {c : Code} {G : ck_G} {b L : Nat} {xs : Nat → Int32} {Q : State → Prop} {c0 w0 : Nat} (C : ck_LX p l s m meth c args b L xs G) (hC : ck_inC G) (hM : ck_inM G) (hO21 : (21, 0) ∈ ck_Ls G) (hO22 : (22, 0) ∈ ck_Ls G) (hc0 : c0 + 20 ≤ 600128) (hw0 : w0 + 200 ≤ 7301064) {K : ck_S → Int32 → Prop} (hK : ∀ (σ : ck_S) (x5 : Int32) (H : Heap) (locs : List Loc) (ls : Array Slot), K σ x5 → ck_H G s H locs σ → lv_has ls 9 [(0, .ref b), (1, .ref (ck_ad G 0 0)), (2, .ref (ck_ad G 10 0)), (3, .ref (ck_ad G 21 0)), (4, .ref (ck_ad G 22 0)), (5, .int x5)] → W p l e room_1 s m args below meth c H locs (c0 + 20) (w0 + 200) Q (F0 m 1534 ls [])) {σ : ck_S} {x5 : Int32} {H : Heap} {locs : List Loc} {ls : Array Slot} (h : sp_law_217 (ck_nc G) (ck_nb G) xs L K σ x5) (hw : ck_H G s H locs σ) (hl : lv_has ls 9 [(0, .ref b), (1, .ref (ck_ad G 0 0)), (2, .ref (ck_ad G 10 0)), (3, .ref (ck_ad G 21 0)), (4, .ref (ck_ad G 22 0)), (5, .int x5)]) : W p l e room_1 s m args below meth c H locs (c0 + 0) (w0 + 0) Q (F0 m 217 ls []) := by
  obtain ⟨hx, hb, hr, hml, hown, hts, hlocks, hlt, hE, hX, hbl, hbA⟩ := id C
  unfold sp_law_217 at h
  refine lv_aload_n hx hb dL_law_217 rfl (lv_at hl 1 rfl) ?_
  refine lv_aload_n hx hb dL_law_218 rfl (lv_at hl 0 rfl) ?_
  refine lv_iload hx hb dL_law_219 (lv_at hl 5 rfl) ?_
  refine lv_iconst (v := 1) hx hb dL_law_221 (by decide) ?_
  refine lv_iadd hx hb dL_law_222 ?_
  refine lv_topi (fun x_1 ex_1 => ?_)
  have h := h x_1 ex_1
  obtain ⟨n2, h⟩ := h
  refine va_sld hx hb hX hbl hbA hw.2.2.2 n2 dL_law_223 ?_
  refine lv_i2l hx hb dL_law_224 rfl ?_
  refine lv_bipush (v := 32) hx hb dL_law_225 (by decide) ?_
  refine lv_lshl hx hb dL_law_227 rfl ?_
  refine lv_aload_n hx hb dL_law_228 rfl (lv_at hl 0 rfl) ?_
  refine lv_iload hx hb dL_law_229 (lv_at hl 5 rfl) ?_
  refine lv_iconst (v := 2) hx hb dL_law_231 (by decide) ?_
  refine lv_iadd hx hb dL_law_232 ?_
  refine lv_topi (fun x_3 ex_3 => ?_)
  have h := h x_3 ex_3
  obtain ⟨n4, h⟩ := h
  refine va_sld hx hb hX hbl hbA hw.2.2.2 n4 dL_law_233 ?_
  refine lv_i2l hx hb dL_law_234 rfl ?_
  refine lv_ldc2 hx hb hown (hts _ tx_0) dL_law_235 ?_
  refine lv_land hx hb dL_law_238 ?_
  refine lv_lor hx hb dL_law_239 ?_
  refine lv_aload_n hx hb dL_law_240 rfl (lv_at hl 0 rfl) ?_
  refine lv_iload hx hb dL_law_241 (lv_at hl 5 rfl) ?_
  refine lv_iconst (v := 3) hx hb dL_law_243 (by decide) ?_
  refine lv_iadd hx hb dL_law_244 ?_
  refine lv_topi (fun x_5 ex_5 => ?_)
  have h := h x_5 ex_5
  obtain ⟨n6, h⟩ := h
  refine va_sld hx hb hX hbl hbA hw.2.2.2 n6 dL_law_245 ?_
  refine lv_i2l hx hb dL_law_246 rfl ?_
  refine lv_bipush (v := 32) hx hb dL_law_247 (by decide) ?_
  refine lv_lshl hx hb dL_law_249 rfl ?_
  refine lv_aload_n hx hb dL_law_250 rfl (lv_at hl 0 rfl) ?_
  refine lv_iload hx hb dL_law_251 (lv_at hl 5 rfl) ?_
  refine lv_iconst (v := 4) hx hb dL_law_253 (by decide) ?_
  refine lv_iadd hx hb dL_law_254 ?_
  refine lv_topi (fun x_7 ex_7 => ?_)
  have h := h x_7 ex_7
  obtain ⟨n8, h⟩ := h
  refine va_sld hx hb hX hbl hbA hw.2.2.2 n8 dL_law_255 ?_
  refine lv_i2l hx hb dL_law_256 rfl ?_
  refine lv_ldc2 hx hb hown (hts _ tx_0) dL_law_257 ?_
  refine lv_land hx hb dL_law_260 ?_
  refine lv_lor hx hb dL_law_261 ?_
  refine ck_callVi (rest := []) ⟨hx, hb, hml, hown, hts⟩ hw (hC.1 0 (by decide)) rfl rfl (ct_X6_seal l G hC h) (cwV 2 hts gT_X6_seal rfl rfl rfl (by decide +kernel) ⟨(Nat.le_of_ble_eq_true rfl), (Nat.le_of_ble_eq_true rfl)⟩) rfl hl.1 rfl (Nat.le_of_ble_eq_true rfl) dL_law_262 ⟨show c0 + 0 ≤ 600128 by omega, show w0 + 0 ≤ 7301064 by omega⟩ (fun x_10 σ9 H locs h hw => ?_)
  refine lv_aload_n hx hb dL_law_265 rfl (lv_at hl 2 rfl) ?_
  refine lv_aload_n hx hb dL_law_266 rfl (lv_at hl 0 rfl) ?_
  refine lv_iload hx hb dL_law_267 (lv_at hl 5 rfl) ?_
  refine lv_iconst (v := 1) hx hb dL_law_269 (by decide) ?_
  refine lv_iadd hx hb dL_law_270 ?_
  refine lv_topi (fun x_11 ex_11 => ?_)
  have h := h x_11 ex_11
  obtain ⟨n12, h⟩ := h
  refine va_sld hx hb hX hbl hbA hw.2.2.2 n12 dL_law_271 ?_
  refine lv_i2l hx hb dL_law_272 rfl ?_
  refine lv_bipush (v := 32) hx hb dL_law_273 (by decide) ?_
  refine lv_lshl hx hb dL_law_275 rfl ?_
  refine lv_aload_n hx hb dL_law_276 rfl (lv_at hl 0 rfl) ?_
  refine lv_iload hx hb dL_law_277 (lv_at hl 5 rfl) ?_
  refine lv_iconst (v := 2) hx hb dL_law_279 (by decide) ?_
  refine lv_iadd hx hb dL_law_280 ?_
  refine lv_topi (fun x_13 ex_13 => ?_)
  have h := h x_13 ex_13
  obtain ⟨n14, h⟩ := h
  refine va_sld hx hb hX hbl hbA hw.2.2.2 n14 dL_law_281 ?_
  refine lv_i2l hx hb dL_law_282 rfl ?_
  refine lv_ldc2 hx hb hown (hts _ tx_0) dL_law_283 ?_
  refine lv_land hx hb dL_law_286 ?_
  refine lv_lor hx hb dL_law_287 ?_
  refine lv_aload_n hx hb dL_law_288 rfl (lv_at hl 0 rfl) ?_
  refine lv_iload hx hb dL_law_289 (lv_at hl 5 rfl) ?_
  refine lv_iconst (v := 3) hx hb dL_law_291 (by decide) ?_
  refine lv_iadd hx hb dL_law_292 ?_
  refine lv_topi (fun x_15 ex_15 => ?_)
  have h := h x_15 ex_15
  obtain ⟨n16, h⟩ := h
  refine va_sld hx hb hX hbl hbA hw.2.2.2 n16 dL_law_293 ?_
  refine lv_i2l hx hb dL_law_294 rfl ?_
  refine lv_bipush (v := 32) hx hb dL_law_295 (by decide) ?_
  refine lv_lshl hx hb dL_law_297 rfl ?_
  refine lv_aload_n hx hb dL_law_298 rfl (lv_at hl 0 rfl) ?_
  refine lv_iload hx hb dL_law_299 (lv_at hl 5 rfl) ?_
  refine lv_iconst (v := 4) hx hb dL_law_301 (by decide) ?_
  refine lv_iadd hx hb dL_law_302 ?_
  refine lv_topi (fun x_17 ex_17 => ?_)
  have h := h x_17 ex_17
  obtain ⟨n18, h⟩ := h
  refine va_sld hx hb hX hbl hbA hw.2.2.2 n18 dL_law_303 ?_
  refine lv_i2l hx hb dL_law_304 rfl ?_
  refine lv_ldc2 hx hb hown (hts _ tx_0) dL_law_305 ?_
  refine lv_land hx hb dL_law_308 ?_
  refine lv_lor hx hb dL_law_309 ?_
  refine ck_callVi (rest := [.int x_10]) ⟨hx, hb, hml, hown, hts⟩ hw (hM 10 (by decide) (by decide)) rfl rfl (ct_X7_seal l G hM h) (cwV 2 hts gT_X7_seal rfl rfl rfl (by decide +kernel) ⟨(Nat.le_of_ble_eq_true rfl), (Nat.le_of_ble_eq_true rfl)⟩) rfl hl.1 rfl (Nat.le_of_ble_eq_true rfl) dL_law_310 ⟨show c0 + 0 ≤ 600128 by omega, show w0 + 0 ≤ 7301064 by omega⟩ (fun x_20 σ19 H locs h hw => ?_)
  obtain ⟨hA, hB⟩ := h
  refine lv_icmp_eq (tgt := 1534) hx hb dL_law_313 (by decide) (fun c21 => ?_) (fun c21 => ?_)
  · have h := hA c21
    refine W.widen (k := c0 + 20) (n := w0 + 200) (show c0 + 0 ≤ c0 + 20 by omega) (show w0 + 0 ≤ w0 + 200 by omega) ?_
    exact hK _ _ _ _ _ h hw (lv_sub hl [0, 1, 2, 3, 4, 5] rfl)
  · have h := hB c21
    refine lv_iconst (v := 0) hx hb dL_law_316 (by decide) ?_
    exact h.elim
set_option maxHeartbeats 4000000 in
set_option maxRecDepth 100000 in
theorem wk_law_466 {p : Program} {l : Launch} {e : Env} {s : State} {m : MethodId} {args : Array Value} {below : List Frame} {meth : Method} {c : Code} {G : ck_G} {b L : Nat} {xs : Nat → Int32} {Q : State → Prop} {c0 w0 : Nat} (C : ck_LX p l s m meth c args b L xs G) (hC : ck_inC G) (hM : ck_inM G) (hO21 : (21, 0) ∈ ck_Ls G) (hO22 : (22, 0) ∈ ck_Ls G) (hc0 : c0 + 20 ≤ 600128) (hw0 : w0 + 200 ≤ 7301064) {K : ck_S → Int32 → Prop} (hK : ∀ (σ : ck_S) (x5 : Int32) (H : Heap) (locs : List Loc) (ls : Array Slot), K σ x5 → ck_H G s H locs σ → lv_has ls 9 [(0, .ref b), (1, .ref (ck_ad G 0 0)), (2, .ref (ck_ad G 10 0)), (3, .ref (ck_ad G 21 0)), (4, .ref (ck_ad G 22 0)), (5, .int x5)] → W p l e room_1 s m args below meth c H locs (c0 + 20) (w0 + 200) Q (F0 m 1534 ls [])) {σ : ck_S} {x5 : Int32} {H : Heap} {locs : List Loc} {ls : Array Slot} (h : sp_law_466 (ck_nc G) (ck_nb G) xs L K σ x5) (hw : ck_H G s H locs σ) (hl : lv_has ls 9 [(0, .ref b), (1, .ref (ck_ad G 0 0)), (2, .ref (ck_ad G 10 0)), (3, .ref (ck_ad G 21 0)), (4, .ref (ck_ad G 22 0)), (5, .int x5)]) : W p l e room_1 s m args below meth c H locs (c0 + 2) (w0 + 12) Q (F0 m 466 ls []) := by
  obtain ⟨hx, hb, hr, hml, hown, hts, hlocks, hlt, hE, hX, hbl, hbA⟩ := id C
  unfold sp_law_466 at h
  refine lv_goto (tgt := 1534) hx hb dL_law_466 (by decide) ?_
  refine W.widen (k := c0 + 20) (n := w0 + 200) (show c0 + 2 ≤ c0 + 20 by omega) (show w0 + 12 ≤ w0 + 200 by omega) ?_
  exact hK _ _ _ _ _ h hw (lv_sub hl [0, 1, 2, 3, 4, 5] rfl)
set_option maxHeartbeats 4000000 in
set_option maxRecDepth 100000 in
theorem wk_law_460 {p : Program} {l : Launch} {e : Env} {s : State} {m : MethodId} {args : Array Value} {below : List Frame} {meth : Method} {c : Code} {G : ck_G} {b L : Nat} {xs : Nat → Int32} {Q : State → Prop} {c0 w0 : Nat} (C : ck_LX p l s m meth c args b L xs G) (hC : ck_inC G) (hM : ck_inM G) (hO21 : (21, 0) ∈ ck_Ls G) (hO22 : (22, 0) ∈ ck_Ls G) (hc0 : c0 + 20 ≤ 600128) (hw0 : w0 + 200 ≤ 7301064) {K : ck_S → Int32 → Prop} (hK : ∀ (σ : ck_S) (x5 : Int32) (H : Heap) (locs : List Loc) (ls : Array Slot), K σ x5 → ck_H G s H locs σ → lv_has ls 9 [(0, .ref b), (1, .ref (ck_ad G 0 0)), (2, .ref (ck_ad G 10 0)), (3, .ref (ck_ad G 21 0)), (4, .ref (ck_ad G 22 0)), (5, .int x5)] → W p l e room_1 s m args below meth c H locs (c0 + 20) (w0 + 200) Q (F0 m 1534 ls [])) {σ : ck_S} {x5 : Int32} {s0 : Int64} {s1 : Int64} {H : Heap} {locs : List Loc} {ls : Array Slot} (h : sp_law_460 (ck_nc G) (ck_nb G) xs L K σ x5 s0 s1) (hw : ck_H G s H locs σ) (hl : lv_has ls 9 [(0, .ref b), (1, .ref (ck_ad G 0 0)), (2, .ref (ck_ad G 10 0)), (3, .ref (ck_ad G 21 0)), (4, .ref (ck_ad G 22 0)), (5, .int x5)]) : W p l e room_1 s m args below meth c H locs (c0 + 2) (w0 + 12) Q (F0 m 460 ls [.long s0, .long s1]) := by
  obtain ⟨hx, hb, hr, hml, hown, hts, hlocks, hlt, hE, hX, hbl, hbA⟩ := id C
  unfold sp_law_460 at h
  refine W.lcmp hx hb dL_law_460 ?_
  obtain ⟨hA, hB⟩ := h
  refine lv_if_eq (tgt := 466) hx hb dL_law_461 (by decide) (fun c1 => ?_) (fun c1 => ?_)
  · have h := hA c1
    exact wk_law_466 C hC hM hO21 hO22 hc0 hw0 hK h hw (lv_sub hl [0, 1, 2, 3, 4, 5] rfl)
  · have h := hB c1
    refine lv_iconst (v := 0) hx hb dL_law_464 (by decide) ?_
    exact h.elim
set_option maxHeartbeats 4000000 in
set_option maxRecDepth 100000 in
theorem wk_law_318 {p : Program} {l : Launch} {e : Env} {s : State} {m : MethodId} {args : Array Value} {below : List Frame} {meth : Method} {c : Code} {G : ck_G} {b L : Nat} {xs : Nat → Int32} {Q : State → Prop} {c0 w0 : Nat} (C : ck_LX p l s m meth c args b L xs G) (hC : ck_inC G) (hM : ck_inM G) (hO21 : (21, 0) ∈ ck_Ls G) (hO22 : (22, 0) ∈ ck_Ls G) (hc0 : c0 + 20 ≤ 600128) (hw0 : w0 + 200 ≤ 7301064) {K : ck_S → Int32 → Prop} (hK : ∀ (σ : ck_S) (x5 : Int32) (H : Heap) (locs : List Loc) (ls : Array Slot), K σ x5 → ck_H G s H locs σ → lv_has ls 9 [(0, .ref b), (1, .ref (ck_ad G 0 0)), (2, .ref (ck_ad G 10 0)), (3, .ref (ck_ad G 21 0)), (4, .ref (ck_ad G 22 0)), (5, .int x5)] → W p l e room_1 s m args below meth c H locs (c0 + 20) (w0 + 200) Q (F0 m 1534 ls [])) {σ : ck_S} {x5 : Int32} {H : Heap} {locs : List Loc} {ls : Array Slot} (h : sp_law_318 (ck_nc G) (ck_nb G) xs L K σ x5) (hw : ck_H G s H locs σ) (hl : lv_has ls 9 [(0, .ref b), (1, .ref (ck_ad G 0 0)), (2, .ref (ck_ad G 10 0)), (3, .ref (ck_ad G 21 0)), (4, .ref (ck_ad G 22 0)), (5, .int x5)]) : W p l e room_1 s m args below meth c H locs (c0 + 0) (w0 + 0) Q (F0 m 318 ls []) := by
  obtain ⟨hx, hb, hr, hml, hown, hts, hlocks, hlt, hE, hX, hbl, hbA⟩ := id C
  unfold sp_law_318 at h
  refine lv_aload_n hx hb dL_law_318 rfl (lv_at hl 1 rfl) ?_
  refine lv_aload_n hx hb dL_law_319 rfl (lv_at hl 0 rfl) ?_
  refine lv_iload hx hb dL_law_320 (lv_at hl 5 rfl) ?_
  refine lv_iconst (v := 1) hx hb dL_law_322 (by decide) ?_
  refine lv_iadd hx hb dL_law_323 ?_
  refine lv_topi (fun x_1 ex_1 => ?_)
  have h := h x_1 ex_1
  obtain ⟨n2, h⟩ := h
  refine va_sld hx hb hX hbl hbA hw.2.2.2 n2 dL_law_324 ?_
  refine lv_aload_n hx hb dL_law_325 rfl (lv_at hl 0 rfl) ?_
  refine lv_iload hx hb dL_law_326 (lv_at hl 5 rfl) ?_
  refine lv_iconst (v := 2) hx hb dL_law_328 (by decide) ?_
  refine lv_iadd hx hb dL_law_329 ?_
  refine lv_topi (fun x_3 ex_3 => ?_)
  have h := h x_3 ex_3
  obtain ⟨n4, h⟩ := h
  refine va_sld hx hb hX hbl hbA hw.2.2.2 n4 dL_law_330 ?_
  refine lv_i2l hx hb dL_law_331 rfl ?_
  refine lv_bipush (v := 32) hx hb dL_law_332 (by decide) ?_
  refine lv_lshl hx hb dL_law_334 rfl ?_
  refine lv_aload_n hx hb dL_law_335 rfl (lv_at hl 0 rfl) ?_
  refine lv_iload hx hb dL_law_336 (lv_at hl 5 rfl) ?_
  refine lv_iconst (v := 3) hx hb dL_law_338 (by decide) ?_
  refine lv_iadd hx hb dL_law_339 ?_
  refine lv_topi (fun x_5 ex_5 => ?_)
  have h := h x_5 ex_5
  obtain ⟨n6, h⟩ := h
  refine va_sld hx hb hX hbl hbA hw.2.2.2 n6 dL_law_340 ?_
  refine lv_i2l hx hb dL_law_341 rfl ?_
  refine lv_ldc2 hx hb hown (hts _ tx_0) dL_law_342 ?_
  refine lv_land hx hb dL_law_345 ?_
  refine lv_lor hx hb dL_law_346 ?_
  refine lv_aload_n hx hb dL_law_347 rfl (lv_at hl 0 rfl) ?_
  refine lv_iload hx hb dL_law_348 (lv_at hl 5 rfl) ?_
  refine lv_iconst (v := 4) hx hb dL_law_350 (by decide) ?_
  refine lv_iadd hx hb dL_law_351 ?_
  refine lv_topi (fun x_7 ex_7 => ?_)
  have h := h x_7 ex_7
  obtain ⟨n8, h⟩ := h
  refine va_sld hx hb hX hbl hbA hw.2.2.2 n8 dL_law_352 ?_
  refine lv_i2l hx hb dL_law_353 rfl ?_
  refine lv_bipush (v := 32) hx hb dL_law_354 (by decide) ?_
  refine lv_lshl hx hb dL_law_356 rfl ?_
  refine lv_aload_n hx hb dL_law_357 rfl (lv_at hl 0 rfl) ?_
  refine lv_iload hx hb dL_law_358 (lv_at hl 5 rfl) ?_
  refine lv_iconst (v := 5) hx hb dL_law_360 (by decide) ?_
  refine lv_iadd hx hb dL_law_361 ?_
  refine lv_topi (fun x_9 ex_9 => ?_)
  have h := h x_9 ex_9
  obtain ⟨n10, h⟩ := h
  refine va_sld hx hb hX hbl hbA hw.2.2.2 n10 dL_law_362 ?_
  refine lv_i2l hx hb dL_law_363 rfl ?_
  refine lv_ldc2 hx hb hown (hts _ tx_0) dL_law_364 ?_
  refine lv_land hx hb dL_law_367 ?_
  refine lv_lor hx hb dL_law_368 ?_
  refine lv_aload_n hx hb dL_law_369 rfl (lv_at hl 3 rfl) ?_
  refine ck_wcallSi (rest := []) ⟨hx, hb, hml, hown, hts⟩ hw hE (ct_L_reply l hlt G hO21 hC h) (vx_cwSW 5 hts gT_L_reply rfl rfl rfl (by decide +kernel) ⟨(Nat.le_of_ble_eq_true rfl), (Nat.le_of_ble_eq_true rfl)⟩) rfl hl.1 rfl (Nat.le_of_ble_eq_true rfl) dL_law_370 ⟨show c0 + 2 ≤ 600128 by omega, show w0 + 12 ≤ 7301064 by omega⟩ (fun x_12 σ11 H locs h hw => ?_)
  refine lv_istore (lv' := [(6, .int x_12), (0, .ref b), (1, .ref (ck_ad G 0 0)), (2, .ref (ck_ad G 10 0)), (3, .ref (ck_ad G 21 0)), (4, .ref (ck_ad G 22 0)), (5, .int x5)]) hx hb dL_law_373 hl (by decide) rfl (fun ls hl => ?_)
  refine lv_aload_n hx hb dL_law_375 rfl (lv_at hl 3 rfl) ?_
  refine lv_aload_n hx hb dL_law_376 rfl (lv_at hl 1 rfl) ?_
  refine lv_iload hx hb dL_law_377 (lv_at hl 6 rfl) ?_
  refine lv_iconst (v := 1) hx hb dL_law_379 (by decide) ?_
  refine lv_iadd hx hb dL_law_380 ?_
  refine lv_topi (fun x_13 ex_13 => ?_)
  have h := h x_13 ex_13
  obtain ⟨n14, h⟩ := h
  refine va_sld hx hb hX hbl hbA hw.2.2.2 n14 dL_law_381 ?_
  refine lv_aload_n hx hb dL_law_382 rfl (lv_at hl 1 rfl) ?_
  refine lv_iload hx hb dL_law_383 (lv_at hl 6 rfl) ?_
  refine lv_iconst (v := 2) hx hb dL_law_385 (by decide) ?_
  refine lv_iadd hx hb dL_law_386 ?_
  refine lv_topi (fun x_15 ex_15 => ?_)
  have h := h x_15 ex_15
  obtain ⟨n16, h⟩ := h
  refine va_sld hx hb hX hbl hbA hw.2.2.2 n16 dL_law_387 ?_
  refine lv_i2l hx hb dL_law_388 rfl ?_
  refine lv_bipush (v := 32) hx hb dL_law_389 (by decide) ?_
  refine lv_lshl hx hb dL_law_391 rfl ?_
  refine lv_aload_n hx hb dL_law_392 rfl (lv_at hl 1 rfl) ?_
  refine lv_iload hx hb dL_law_393 (lv_at hl 6 rfl) ?_
  refine lv_iconst (v := 3) hx hb dL_law_395 (by decide) ?_
  refine lv_iadd hx hb dL_law_396 ?_
  refine lv_topi (fun x_17 ex_17 => ?_)
  have h := h x_17 ex_17
  obtain ⟨n18, h⟩ := h
  refine va_sld hx hb hX hbl hbA hw.2.2.2 n18 dL_law_397 ?_
  refine lv_i2l hx hb dL_law_398 rfl ?_
  refine lv_ldc2 hx hb hown (hts _ tx_0) dL_law_399 ?_
  refine lv_land hx hb dL_law_402 ?_
  refine lv_lor hx hb dL_law_403 ?_
  refine lv_aload_n hx hb dL_law_404 rfl (lv_at hl 1 rfl) ?_
  refine lv_iload hx hb dL_law_405 (lv_at hl 6 rfl) ?_
  refine lv_iconst (v := 4) hx hb dL_law_407 (by decide) ?_
  refine lv_iadd hx hb dL_law_408 ?_
  refine lv_topi (fun x_19 ex_19 => ?_)
  have h := h x_19 ex_19
  obtain ⟨n20, h⟩ := h
  refine va_sld hx hb hX hbl hbA hw.2.2.2 n20 dL_law_409 ?_
  refine lv_i2l hx hb dL_law_410 rfl ?_
  refine lv_bipush (v := 32) hx hb dL_law_411 (by decide) ?_
  refine lv_lshl hx hb dL_law_413 rfl ?_
  refine lv_aload_n hx hb dL_law_414 rfl (lv_at hl 1 rfl) ?_
  refine lv_iload hx hb dL_law_415 (lv_at hl 6 rfl) ?_
  refine lv_iconst (v := 5) hx hb dL_law_417 (by decide) ?_
  refine lv_iadd hx hb dL_law_418 ?_
  refine lv_topi (fun x_21 ex_21 => ?_)
  have h := h x_21 ex_21
  obtain ⟨n22, h⟩ := h
  refine va_sld hx hb hX hbl hbA hw.2.2.2 n22 dL_law_419 ?_
  refine lv_i2l hx hb dL_law_420 rfl ?_
  refine lv_ldc2 hx hb hown (hts _ tx_0) dL_law_421 ?_
  refine lv_land hx hb dL_law_424 ?_
  refine lv_lor hx hb dL_law_425 ?_
  refine ck_callVi (rest := []) ⟨hx, hb, hml, hown, hts⟩ hw (hM 10 (by decide) (by decide)) rfl rfl (ct_X7_reply l G hM h) (cwV 3 hts gT_X7_reply rfl rfl rfl (by decide +kernel) ⟨(Nat.le_of_ble_eq_true rfl), (Nat.le_of_ble_eq_true rfl)⟩) rfl hl.1 rfl (Nat.le_of_ble_eq_true rfl) dL_law_426 ⟨show c0 + 2 ≤ 600128 by omega, show w0 + 12 ≤ 7301064 by omega⟩ (fun x_24 σ23 H locs h hw => ?_)
  refine lv_istore (lv' := [(7, .int x_24), (6, .int x_12), (0, .ref b), (1, .ref (ck_ad G 0 0)), (2, .ref (ck_ad G 10 0)), (3, .ref (ck_ad G 21 0)), (4, .ref (ck_ad G 22 0)), (5, .int x5)]) hx hb dL_law_429 hl (by decide) rfl (fun ls hl => ?_)
  refine lv_aload_n hx hb dL_law_431 rfl (lv_at hl 4 rfl) ?_
  refine ck_callVi (rest := []) ⟨hx, hb, hml, hown, hts⟩ hw (hM 10 (by decide) (by decide)) rfl rfl (ct_X7_thrown l G hM h) (cwV 0 hts gT_X7_thrown rfl rfl rfl (by decide +kernel) ⟨(Nat.le_of_ble_eq_true rfl), (Nat.le_of_ble_eq_true rfl)⟩) rfl hl.1 rfl (Nat.le_of_ble_eq_true rfl) dL_law_432 ⟨show c0 + 2 ≤ 600128 by omega, show w0 + 12 ≤ 7301064 by omega⟩ (fun x_26 σ25 H locs h hw => ?_)
  refine lv_iload hx hb dL_law_435 (lv_at hl 1 rfl) ?_
  obtain ⟨hA, hB⟩ := h
  refine lv_icmp_eq (tgt := 442) hx hb dL_law_437 (by decide) (fun c27 => ?_) (fun c27 => ?_)
  · have h := hA c27
    refine lv_iload hx hb dL_law_442 (lv_at hl 1 rfl) ?_
    obtain ⟨hA, hB⟩ := h
    refine lv_if_ne (tgt := 466) hx hb dL_law_444 (by decide) (fun c28 => ?_) (fun c28 => ?_)
    · have h := hA c28
      exact wk_law_466 C hC hM hO21 hO22 hc0 hw0 hK h hw (lv_sub hl [2, 3, 4, 5, 6, 7] rfl)
    · have h := hB c28
      refine lv_aload_n hx hb dL_law_447 rfl (lv_at hl 5 rfl) ?_
      refine lv_iconst (v := 0) hx hb dL_law_448 (by decide) ?_
      obtain ⟨n29, h⟩ := h
      refine ck_lald hx hb hw hO21 rfl n29 dL_law_449 ?_
      refine lv_topl (fun y_30 ey_30 => ?_)
      have h := h y_30 ey_30
      refine lv_iload hx hb dL_law_450 (lv_at hl 0 rfl) ?_
      obtain ⟨hA, hB⟩ := h
      refine lv_if_eq (tgt := 459) hx hb dL_law_452 (by decide) (fun c31 => ?_) (fun c31 => ?_)
      · have h := hA c31
        refine lv_lconst (v := 0) hx hb dL_law_459 (by decide) ?_
        exact wk_law_460 C hC hM hO21 hO22 hc0 hw0 hK h hw (lv_sub hl [2, 3, 4, 5, 6, 7] rfl)
      · have h := hB c31
        refine lv_lconst (v := 1) hx hb dL_law_455 (by decide) ?_
        refine lv_goto (tgt := 460) hx hb dL_law_456 (by decide) ?_
        exact wk_law_460 C hC hM hO21 hO22 hc0 hw0 hK h hw (lv_sub hl [2, 3, 4, 5, 6, 7] rfl)
  · have h := hB c27
    refine lv_iconst (v := 0) hx hb dL_law_440 (by decide) ?_
    exact h.elim
set_option maxHeartbeats 4000000 in
set_option maxRecDepth 100000 in
theorem wk_law_469 {p : Program} {l : Launch} {e : Env} {s : State} {m : MethodId} {args : Array Value} {below : List Frame} {meth : Method} {c : Code} {G : ck_G} {b L : Nat} {xs : Nat → Int32} {Q : State → Prop} {c0 w0 : Nat} (C : ck_LX p l s m meth c args b L xs G) (hC : ck_inC G) (hM : ck_inM G) (hO21 : (21, 0) ∈ ck_Ls G) (hO22 : (22, 0) ∈ ck_Ls G) (hc0 : c0 + 20 ≤ 600128) (hw0 : w0 + 200 ≤ 7301064) {K : ck_S → Int32 → Prop} (hK : ∀ (σ : ck_S) (x5 : Int32) (H : Heap) (locs : List Loc) (ls : Array Slot), K σ x5 → ck_H G s H locs σ → lv_has ls 9 [(0, .ref b), (1, .ref (ck_ad G 0 0)), (2, .ref (ck_ad G 10 0)), (3, .ref (ck_ad G 21 0)), (4, .ref (ck_ad G 22 0)), (5, .int x5)] → W p l e room_1 s m args below meth c H locs (c0 + 20) (w0 + 200) Q (F0 m 1534 ls [])) {σ : ck_S} {x5 : Int32} {H : Heap} {locs : List Loc} {ls : Array Slot} (h : sp_law_469 (ck_nc G) (ck_nb G) xs L K σ x5) (hw : ck_H G s H locs σ) (hl : lv_has ls 9 [(0, .ref b), (1, .ref (ck_ad G 0 0)), (2, .ref (ck_ad G 10 0)), (3, .ref (ck_ad G 21 0)), (4, .ref (ck_ad G 22 0)), (5, .int x5)]) : W p l e room_1 s m args below meth c H locs (c0 + 0) (w0 + 0) Q (F0 m 469 ls []) := by
  obtain ⟨hx, hb, hr, hml, hown, hts, hlocks, hlt, hE, hX, hbl, hbA⟩ := id C
  unfold sp_law_469 at h
  refine lv_aload_n hx hb dL_law_469 rfl (lv_at hl 1 rfl) ?_
  refine lv_aload_n hx hb dL_law_470 rfl (lv_at hl 0 rfl) ?_
  refine lv_iload hx hb dL_law_471 (lv_at hl 5 rfl) ?_
  refine lv_iconst (v := 1) hx hb dL_law_473 (by decide) ?_
  refine lv_iadd hx hb dL_law_474 ?_
  refine lv_topi (fun x_1 ex_1 => ?_)
  have h := h x_1 ex_1
  obtain ⟨n2, h⟩ := h
  refine va_sld hx hb hX hbl hbA hw.2.2.2 n2 dL_law_475 ?_
  refine lv_i2d hx hb dL_law_476 ?_
  refine lv_ldc2d hx hb hown (hts _ tx_1) dL_law_477 ?_
  obtain ⟨n3, h⟩ := h
  refine lv_dmul hx hb dL_law_480 n3 ?_
  refine ck_wcallSi (rest := []) ⟨hx, hb, hml, hown, hts⟩ hw hE (ct_L_current l hlt G hC h) (vx_cwSW 2 hts gT_L_current rfl rfl rfl (by decide +kernel) ⟨(Nat.le_of_ble_eq_true rfl), (Nat.le_of_ble_eq_true rfl)⟩) rfl hl.1 rfl (Nat.le_of_ble_eq_true rfl) dL_law_481 ⟨show c0 + 2 ≤ 600128 by omega, show w0 + 12 ≤ 7301064 by omega⟩ (fun x_5 σ4 H locs h hw => ?_)
  refine lv_istore (lv' := [(6, .int x_5), (0, .ref b), (1, .ref (ck_ad G 0 0)), (2, .ref (ck_ad G 10 0)), (3, .ref (ck_ad G 21 0)), (4, .ref (ck_ad G 22 0)), (5, .int x5)]) hx hb dL_law_484 hl (by decide) rfl (fun ls hl => ?_)
  refine lv_aload_n hx hb dL_law_486 rfl (lv_at hl 3 rfl) ?_
  refine lv_aload_n hx hb dL_law_487 rfl (lv_at hl 1 rfl) ?_
  refine lv_iload hx hb dL_law_488 (lv_at hl 6 rfl) ?_
  refine lv_iconst (v := 1) hx hb dL_law_490 (by decide) ?_
  refine lv_iadd hx hb dL_law_491 ?_
  refine lv_topi (fun x_6 ex_6 => ?_)
  have h := h x_6 ex_6
  obtain ⟨n7, h⟩ := h
  refine va_sld hx hb hX hbl hbA hw.2.2.2 n7 dL_law_492 ?_
  refine lv_i2d hx hb dL_law_493 ?_
  refine lv_ldc2d hx hb hown (hts _ tx_1) dL_law_494 ?_
  obtain ⟨n8, h⟩ := h
  refine lv_dmul hx hb dL_law_497 n8 ?_
  refine ck_callVv (rest := []) ⟨hx, hb, hml, hown, hts⟩ hw (hM 10 (by decide) (by decide)) rfl rfl (ct_X7_current l G hM h) (cwV 1 hts gT_X7_current rfl rfl rfl (by decide +kernel) ⟨(Nat.le_of_ble_eq_true rfl), (Nat.le_of_ble_eq_true rfl)⟩) rfl hl.1 rfl (Nat.le_of_ble_eq_true rfl) dL_law_498 ⟨show c0 + 2 ≤ 600128 by omega, show w0 + 12 ≤ 7301064 by omega⟩ (fun σ9 H locs h hw => ?_)
  refine lv_aload_n hx hb dL_law_501 rfl (lv_at hl 3 rfl) ?_
  refine ck_callVi (rest := []) ⟨hx, hb, hml, hown, hts⟩ hw (hM 10 (by decide) (by decide)) rfl rfl (ct_X7_thrown l G hM h) (cwV 0 hts gT_X7_thrown rfl rfl rfl (by decide +kernel) ⟨(Nat.le_of_ble_eq_true rfl), (Nat.le_of_ble_eq_true rfl)⟩) rfl hl.1 rfl (Nat.le_of_ble_eq_true rfl) dL_law_502 ⟨show c0 + 2 ≤ 600128 by omega, show w0 + 12 ≤ 7301064 by omega⟩ (fun x_12 σ11 H locs h hw => ?_)
  refine lv_iload hx hb dL_law_505 (lv_at hl 0 rfl) ?_
  obtain ⟨hA, hB⟩ := h
  refine lv_icmp_eq (tgt := 512) hx hb dL_law_507 (by decide) (fun c13 => ?_) (fun c13 => ?_)
  · have h := hA c13
    refine lv_goto (tgt := 1534) hx hb dL_law_512 (by decide) ?_
    refine W.widen (k := c0 + 20) (n := w0 + 200) (show c0 + 2 ≤ c0 + 20 by omega) (show w0 + 12 ≤ w0 + 200 by omega) ?_
    exact hK _ _ _ _ _ h hw (lv_sub hl [1, 2, 3, 4, 5, 6] rfl)
  · have h := hB c13
    refine lv_iconst (v := 0) hx hb dL_law_510 (by decide) ?_
    exact h.elim
set_option maxHeartbeats 4000000 in
set_option maxRecDepth 100000 in
theorem wk_law_515 {p : Program} {l : Launch} {e : Env} {s : State} {m : MethodId} {args : Array Value} {below : List Frame} {meth : Method} {c : Code} {G : ck_G} {b L : Nat} {xs : Nat → Int32} {Q : State → Prop} {c0 w0 : Nat} (C : ck_LX p l s m meth c args b L xs G) (hC : ck_inC G) (hM : ck_inM G) (hO21 : (21, 0) ∈ ck_Ls G) (hO22 : (22, 0) ∈ ck_Ls G) (hc0 : c0 + 20 ≤ 600128) (hw0 : w0 + 200 ≤ 7301064) {K : ck_S → Int32 → Prop} (hK : ∀ (σ : ck_S) (x5 : Int32) (H : Heap) (locs : List Loc) (ls : Array Slot), K σ x5 → ck_H G s H locs σ → lv_has ls 9 [(0, .ref b), (1, .ref (ck_ad G 0 0)), (2, .ref (ck_ad G 10 0)), (3, .ref (ck_ad G 21 0)), (4, .ref (ck_ad G 22 0)), (5, .int x5)] → W p l e room_1 s m args below meth c H locs (c0 + 20) (w0 + 200) Q (F0 m 1534 ls [])) {σ : ck_S} {x5 : Int32} {H : Heap} {locs : List Loc} {ls : Array Slot} (h : sp_law_515 (ck_nc G) (ck_nb G) xs L K σ x5) (hw : ck_H G s H locs σ) (hl : lv_has ls 9 [(0, .ref b), (1, .ref (ck_ad G 0 0)), (2, .ref (ck_ad G 10 0)), (3, .ref (ck_ad G 21 0)), (4, .ref (ck_ad G 22 0)), (5, .int x5)]) : W p l e room_1 s m args below meth c H locs (c0 + 0) (w0 + 0) Q (F0 m 515 ls []) := by
  obtain ⟨hx, hb, hr, hml, hown, hts, hlocks, hlt, hE, hX, hbl, hbA⟩ := id C
  unfold sp_law_515 at h
  refine lv_aload_n hx hb dL_law_515 rfl (lv_at hl 1 rfl) ?_
  refine lv_aload_n hx hb dL_law_516 rfl (lv_at hl 0 rfl) ?_
  refine lv_iload hx hb dL_law_517 (lv_at hl 5 rfl) ?_
  refine lv_iconst (v := 1) hx hb dL_law_519 (by decide) ?_
  refine lv_iadd hx hb dL_law_520 ?_
  refine lv_topi (fun x_1 ex_1 => ?_)
  have h := h x_1 ex_1
  obtain ⟨n2, h⟩ := h
  refine va_sld hx hb hX hbl hbA hw.2.2.2 n2 dL_law_521 ?_
  refine lv_aload_n hx hb dL_law_522 rfl (lv_at hl 0 rfl) ?_
  refine lv_iload hx hb dL_law_523 (lv_at hl 5 rfl) ?_
  refine lv_iconst (v := 2) hx hb dL_law_525 (by decide) ?_
  refine lv_iadd hx hb dL_law_526 ?_
  refine lv_topi (fun x_3 ex_3 => ?_)
  have h := h x_3 ex_3
  obtain ⟨n4, h⟩ := h
  refine va_sld hx hb hX hbl hbA hw.2.2.2 n4 dL_law_527 ?_
  refine lv_i2d hx hb dL_law_528 ?_
  refine lv_ldc2d hx hb hown (hts _ tx_1) dL_law_529 ?_
  obtain ⟨n5, h⟩ := h
  refine lv_dmul hx hb dL_law_532 n5 ?_
  refine ck_wcallSi (rest := []) ⟨hx, hb, hml, hown, hts⟩ hw hE (ct_L_warm l hlt G hC h) (vx_cwSW 3 hts gT_L_warm rfl rfl rfl (by decide +kernel) ⟨(Nat.le_of_ble_eq_true rfl), (Nat.le_of_ble_eq_true rfl)⟩) rfl hl.1 rfl (Nat.le_of_ble_eq_true rfl) dL_law_533 ⟨show c0 + 3 ≤ 600128 by omega, show w0 + 18 ≤ 7301064 by omega⟩ (fun x_7 σ6 H locs h hw => ?_)
  refine lv_istore (lv' := [(6, .int x_7), (0, .ref b), (1, .ref (ck_ad G 0 0)), (2, .ref (ck_ad G 10 0)), (3, .ref (ck_ad G 21 0)), (4, .ref (ck_ad G 22 0)), (5, .int x5)]) hx hb dL_law_536 hl (by decide) rfl (fun ls hl => ?_)
  refine lv_aload_n hx hb dL_law_538 rfl (lv_at hl 3 rfl) ?_
  refine lv_aload_n hx hb dL_law_539 rfl (lv_at hl 1 rfl) ?_
  refine lv_iload hx hb dL_law_540 (lv_at hl 6 rfl) ?_
  refine lv_iconst (v := 1) hx hb dL_law_542 (by decide) ?_
  refine lv_iadd hx hb dL_law_543 ?_
  refine lv_topi (fun x_8 ex_8 => ?_)
  have h := h x_8 ex_8
  obtain ⟨n9, h⟩ := h
  refine va_sld hx hb hX hbl hbA hw.2.2.2 n9 dL_law_544 ?_
  refine lv_aload_n hx hb dL_law_545 rfl (lv_at hl 1 rfl) ?_
  refine lv_iload hx hb dL_law_546 (lv_at hl 6 rfl) ?_
  refine lv_iconst (v := 2) hx hb dL_law_548 (by decide) ?_
  refine lv_iadd hx hb dL_law_549 ?_
  refine lv_topi (fun x_10 ex_10 => ?_)
  have h := h x_10 ex_10
  obtain ⟨n11, h⟩ := h
  refine va_sld hx hb hX hbl hbA hw.2.2.2 n11 dL_law_550 ?_
  refine lv_i2d hx hb dL_law_551 ?_
  refine lv_ldc2d hx hb hown (hts _ tx_1) dL_law_552 ?_
  obtain ⟨n12, h⟩ := h
  refine lv_dmul hx hb dL_law_555 n12 ?_
  refine ck_callVv (rest := []) ⟨hx, hb, hml, hown, hts⟩ hw (hM 10 (by decide) (by decide)) rfl rfl (ct_X7_warm l G hM h) (cwV 2 hts gT_X7_warm rfl rfl rfl (by decide +kernel) ⟨(Nat.le_of_ble_eq_true rfl), (Nat.le_of_ble_eq_true rfl)⟩) rfl hl.1 rfl (Nat.le_of_ble_eq_true rfl) dL_law_556 ⟨show c0 + 3 ≤ 600128 by omega, show w0 + 18 ≤ 7301064 by omega⟩ (fun σ13 H locs h hw => ?_)
  refine lv_aload_n hx hb dL_law_559 rfl (lv_at hl 3 rfl) ?_
  refine ck_callVi (rest := []) ⟨hx, hb, hml, hown, hts⟩ hw (hM 10 (by decide) (by decide)) rfl rfl (ct_X7_thrown l G hM h) (cwV 0 hts gT_X7_thrown rfl rfl rfl (by decide +kernel) ⟨(Nat.le_of_ble_eq_true rfl), (Nat.le_of_ble_eq_true rfl)⟩) rfl hl.1 rfl (Nat.le_of_ble_eq_true rfl) dL_law_560 ⟨show c0 + 3 ≤ 600128 by omega, show w0 + 18 ≤ 7301064 by omega⟩ (fun x_16 σ15 H locs h hw => ?_)
  refine lv_iload hx hb dL_law_563 (lv_at hl 0 rfl) ?_
  obtain ⟨hA, hB⟩ := h
  refine lv_icmp_eq (tgt := 570) hx hb dL_law_565 (by decide) (fun c17 => ?_) (fun c17 => ?_)
  · have h := hA c17
    refine lv_goto (tgt := 1534) hx hb dL_law_570 (by decide) ?_
    refine W.widen (k := c0 + 20) (n := w0 + 200) (show c0 + 3 ≤ c0 + 20 by omega) (show w0 + 18 ≤ w0 + 200 by omega) ?_
    exact hK _ _ _ _ _ h hw (lv_sub hl [1, 2, 3, 4, 5, 6] rfl)
  · have h := hB c17
    refine lv_iconst (v := 0) hx hb dL_law_568 (by decide) ?_
    exact h.elim
set_option maxHeartbeats 4000000 in
set_option maxRecDepth 100000 in
theorem wk_law_573 {p : Program} {l : Launch} {e : Env} {s : State} {m : MethodId} {args : Array Value} {below : List Frame} {meth : Method} {c : Code} {G : ck_G} {b L : Nat} {xs : Nat → Int32} {Q : State → Prop} {c0 w0 : Nat} (C : ck_LX p l s m meth c args b L xs G) (hC : ck_inC G) (hM : ck_inM G) (hO21 : (21, 0) ∈ ck_Ls G) (hO22 : (22, 0) ∈ ck_Ls G) (hc0 : c0 + 20 ≤ 600128) (hw0 : w0 + 200 ≤ 7301064) {K : ck_S → Int32 → Prop} (hK : ∀ (σ : ck_S) (x5 : Int32) (H : Heap) (locs : List Loc) (ls : Array Slot), K σ x5 → ck_H G s H locs σ → lv_has ls 9 [(0, .ref b), (1, .ref (ck_ad G 0 0)), (2, .ref (ck_ad G 10 0)), (3, .ref (ck_ad G 21 0)), (4, .ref (ck_ad G 22 0)), (5, .int x5)] → W p l e room_1 s m args below meth c H locs (c0 + 20) (w0 + 200) Q (F0 m 1534 ls [])) {σ : ck_S} {x5 : Int32} {H : Heap} {locs : List Loc} {ls : Array Slot} (h : sp_law_573 (ck_nc G) (ck_nb G) xs L K σ x5) (hw : ck_H G s H locs σ) (hl : lv_has ls 9 [(0, .ref b), (1, .ref (ck_ad G 0 0)), (2, .ref (ck_ad G 10 0)), (3, .ref (ck_ad G 21 0)), (4, .ref (ck_ad G 22 0)), (5, .int x5)]) : W p l e room_1 s m args below meth c H locs (c0 + 0) (w0 + 0) Q (F0 m 573 ls []) := by
  obtain ⟨hx, hb, hr, hml, hown, hts, hlocks, hlt, hE, hX, hbl, hbA⟩ := id C
  unfold sp_law_573 at h
  refine lv_aload_n hx hb dL_law_573 rfl (lv_at hl 1 rfl) ?_
  refine lv_aload_n hx hb dL_law_574 rfl (lv_at hl 0 rfl) ?_
  refine lv_iload hx hb dL_law_575 (lv_at hl 5 rfl) ?_
  refine lv_iconst (v := 1) hx hb dL_law_577 (by decide) ?_
  refine lv_iadd hx hb dL_law_578 ?_
  refine lv_topi (fun x_1 ex_1 => ?_)
  have h := h x_1 ex_1
  obtain ⟨n2, h⟩ := h
  refine va_sld hx hb hX hbl hbA hw.2.2.2 n2 dL_law_579 ?_
  refine ck_wcallSi (rest := []) ⟨hx, hb, hml, hown, hts⟩ hw hE (ct_L_bus l hlt G hC h) (vx_cwSW 2 hts gT_L_bus rfl rfl rfl (by decide +kernel) ⟨(Nat.le_of_ble_eq_true rfl), (Nat.le_of_ble_eq_true rfl)⟩) rfl hl.1 rfl (Nat.le_of_ble_eq_true rfl) dL_law_580 ⟨show c0 + 2 ≤ 600128 by omega, show w0 + 12 ≤ 7301064 by omega⟩ (fun x_4 σ3 H locs h hw => ?_)
  refine lv_istore (lv' := [(6, .int x_4), (0, .ref b), (1, .ref (ck_ad G 0 0)), (2, .ref (ck_ad G 10 0)), (3, .ref (ck_ad G 21 0)), (4, .ref (ck_ad G 22 0)), (5, .int x5)]) hx hb dL_law_583 hl (by decide) rfl (fun ls hl => ?_)
  refine lv_aload_n hx hb dL_law_585 rfl (lv_at hl 3 rfl) ?_
  refine lv_aload_n hx hb dL_law_586 rfl (lv_at hl 1 rfl) ?_
  refine lv_iload hx hb dL_law_587 (lv_at hl 6 rfl) ?_
  refine lv_iconst (v := 1) hx hb dL_law_589 (by decide) ?_
  refine lv_iadd hx hb dL_law_590 ?_
  refine lv_topi (fun x_5 ex_5 => ?_)
  have h := h x_5 ex_5
  obtain ⟨n6, h⟩ := h
  refine va_sld hx hb hX hbl hbA hw.2.2.2 n6 dL_law_591 ?_
  refine ck_callVv (rest := []) ⟨hx, hb, hml, hown, hts⟩ hw (hM 10 (by decide) (by decide)) rfl rfl (ct_X7_bus l G hM h) (cwV 1 hts gT_X7_bus rfl rfl rfl (by decide +kernel) ⟨(Nat.le_of_ble_eq_true rfl), (Nat.le_of_ble_eq_true rfl)⟩) rfl hl.1 rfl (Nat.le_of_ble_eq_true rfl) dL_law_592 ⟨show c0 + 2 ≤ 600128 by omega, show w0 + 12 ≤ 7301064 by omega⟩ (fun σ7 H locs h hw => ?_)
  refine lv_aload_n hx hb dL_law_595 rfl (lv_at hl 3 rfl) ?_
  refine ck_callVi (rest := []) ⟨hx, hb, hml, hown, hts⟩ hw (hM 10 (by decide) (by decide)) rfl rfl (ct_X7_thrown l G hM h) (cwV 0 hts gT_X7_thrown rfl rfl rfl (by decide +kernel) ⟨(Nat.le_of_ble_eq_true rfl), (Nat.le_of_ble_eq_true rfl)⟩) rfl hl.1 rfl (Nat.le_of_ble_eq_true rfl) dL_law_596 ⟨show c0 + 2 ≤ 600128 by omega, show w0 + 12 ≤ 7301064 by omega⟩ (fun x_10 σ9 H locs h hw => ?_)
  refine lv_iload hx hb dL_law_599 (lv_at hl 0 rfl) ?_
  obtain ⟨hA, hB⟩ := h
  refine lv_icmp_eq (tgt := 606) hx hb dL_law_601 (by decide) (fun c11 => ?_) (fun c11 => ?_)
  · have h := hA c11
    refine lv_goto (tgt := 1534) hx hb dL_law_606 (by decide) ?_
    refine W.widen (k := c0 + 20) (n := w0 + 200) (show c0 + 2 ≤ c0 + 20 by omega) (show w0 + 12 ≤ w0 + 200 by omega) ?_
    exact hK _ _ _ _ _ h hw (lv_sub hl [1, 2, 3, 4, 5, 6] rfl)
  · have h := hB c11
    refine lv_iconst (v := 0) hx hb dL_law_604 (by decide) ?_
    exact h.elim
set_option maxHeartbeats 4000000 in
set_option maxRecDepth 100000 in
theorem wk_law_644 {p : Program} {l : Launch} {e : Env} {s : State} {m : MethodId} {args : Array Value} {below : List Frame} {meth : Method} {c : Code} {G : ck_G} {b L : Nat} {xs : Nat → Int32} {Q : State → Prop} {c0 w0 : Nat} (C : ck_LX p l s m meth c args b L xs G) (hC : ck_inC G) (hM : ck_inM G) (hO21 : (21, 0) ∈ ck_Ls G) (hO22 : (22, 0) ∈ ck_Ls G) (hc0 : c0 + 20 ≤ 600128) (hw0 : w0 + 200 ≤ 7301064) {K : ck_S → Int32 → Prop} (hK : ∀ (σ : ck_S) (x5 : Int32) (H : Heap) (locs : List Loc) (ls : Array Slot), K σ x5 → ck_H G s H locs σ → lv_has ls 9 [(0, .ref b), (1, .ref (ck_ad G 0 0)), (2, .ref (ck_ad G 10 0)), (3, .ref (ck_ad G 21 0)), (4, .ref (ck_ad G 22 0)), (5, .int x5)] → W p l e room_1 s m args below meth c H locs (c0 + 20) (w0 + 200) Q (F0 m 1534 ls [])) {σ : ck_S} {x5 : Int32} {x6 : Int32} {s0 : Int32} {H : Heap} {locs : List Loc} {ls : Array Slot} (h : sp_law_644 (ck_nc G) (ck_nb G) xs L K σ x5 x6 s0) (hw : ck_H G s H locs σ) (hl : lv_has ls 9 [(0, .ref b), (1, .ref (ck_ad G 0 0)), (2, .ref (ck_ad G 10 0)), (3, .ref (ck_ad G 21 0)), (4, .ref (ck_ad G 22 0)), (5, .int x5), (6, .int x6)]) : W p l e room_1 s m args below meth c H locs (c0 + 1) (w0 + 6) Q (F0 m 644 ls [.int s0, .ref (ck_ad G 10 0)]) := by
  obtain ⟨hx, hb, hr, hml, hown, hts, hlocks, hlt, hE, hX, hbl, hbA⟩ := id C
  unfold sp_law_644 at h
  refine ck_callVv (rest := []) ⟨hx, hb, hml, hown, hts⟩ hw (hM 10 (by decide) (by decide)) rfl rfl (ct_X7_want l G hM h) (cwV 1 hts gT_X7_want rfl rfl rfl (by decide +kernel) ⟨(Nat.le_of_ble_eq_true rfl), (Nat.le_of_ble_eq_true rfl)⟩) rfl hl.1 rfl (Nat.le_of_ble_eq_true rfl) dL_law_644 ⟨show c0 + 1 ≤ 600128 by omega, show w0 + 6 ≤ 7301064 by omega⟩ (fun σ1 H locs h hw => ?_)
  refine lv_aload_n hx hb dL_law_647 rfl (lv_at hl 2 rfl) ?_
  refine ck_callVi (rest := []) ⟨hx, hb, hml, hown, hts⟩ hw (hM 10 (by decide) (by decide)) rfl rfl (ct_X7_thrown l G hM h) (cwV 0 hts gT_X7_thrown rfl rfl rfl (by decide +kernel) ⟨(Nat.le_of_ble_eq_true rfl), (Nat.le_of_ble_eq_true rfl)⟩) rfl hl.1 rfl (Nat.le_of_ble_eq_true rfl) dL_law_648 ⟨show c0 + 1 ≤ 600128 by omega, show w0 + 6 ≤ 7301064 by omega⟩ (fun x_4 σ3 H locs h hw => ?_)
  refine lv_iload hx hb dL_law_651 (lv_at hl 6 rfl) ?_
  obtain ⟨hA, hB⟩ := h
  refine lv_icmp_eq (tgt := 658) hx hb dL_law_653 (by decide) (fun c5 => ?_) (fun c5 => ?_)
  · have h := hA c5
    refine lv_goto (tgt := 1534) hx hb dL_law_658 (by decide) ?_
    refine W.widen (k := c0 + 20) (n := w0 + 200) (show c0 + 1 ≤ c0 + 20 by omega) (show w0 + 6 ≤ w0 + 200 by omega) ?_
    exact hK _ _ _ _ _ h hw (lv_sub hl [0, 1, 2, 3, 4, 5] rfl)
  · have h := hB c5
    refine lv_iconst (v := 0) hx hb dL_law_656 (by decide) ?_
    exact h.elim
set_option maxHeartbeats 4000000 in
set_option maxRecDepth 100000 in
theorem wk_law_624 {p : Program} {l : Launch} {e : Env} {s : State} {m : MethodId} {args : Array Value} {below : List Frame} {meth : Method} {c : Code} {G : ck_G} {b L : Nat} {xs : Nat → Int32} {Q : State → Prop} {c0 w0 : Nat} (C : ck_LX p l s m meth c args b L xs G) (hC : ck_inC G) (hM : ck_inM G) (hO21 : (21, 0) ∈ ck_Ls G) (hO22 : (22, 0) ∈ ck_Ls G) (hc0 : c0 + 20 ≤ 600128) (hw0 : w0 + 200 ≤ 7301064) {K : ck_S → Int32 → Prop} (hK : ∀ (σ : ck_S) (x5 : Int32) (H : Heap) (locs : List Loc) (ls : Array Slot), K σ x5 → ck_H G s H locs σ → lv_has ls 9 [(0, .ref b), (1, .ref (ck_ad G 0 0)), (2, .ref (ck_ad G 10 0)), (3, .ref (ck_ad G 21 0)), (4, .ref (ck_ad G 22 0)), (5, .int x5)] → W p l e room_1 s m args below meth c H locs (c0 + 20) (w0 + 200) Q (F0 m 1534 ls [])) {σ : ck_S} {x5 : Int32} {s0 : Int32} {H : Heap} {locs : List Loc} {ls : Array Slot} (h : sp_law_624 (ck_nc G) (ck_nb G) xs L K σ x5 s0) (hw : ck_H G s H locs σ) (hl : lv_has ls 9 [(0, .ref b), (1, .ref (ck_ad G 0 0)), (2, .ref (ck_ad G 10 0)), (3, .ref (ck_ad G 21 0)), (4, .ref (ck_ad G 22 0)), (5, .int x5)]) : W p l e room_1 s m args below meth c H locs (c0 + 0) (w0 + 0) Q (F0 m 624 ls [.int s0, .ref (ck_ad G 0 0)]) := by
  obtain ⟨hx, hb, hr, hml, hown, hts, hlocks, hlt, hE, hX, hbl, hbA⟩ := id C
  unfold sp_law_624 at h
  refine ck_wcallSi (rest := []) ⟨hx, hb, hml, hown, hts⟩ hw hE (ct_L_want l hlt G hC h) (vx_cwSW 2 hts gT_L_want rfl rfl rfl (by decide +kernel) ⟨(Nat.le_of_ble_eq_true rfl), (Nat.le_of_ble_eq_true rfl)⟩) rfl hl.1 rfl (Nat.le_of_ble_eq_true rfl) dL_law_624 ⟨show c0 + 1 ≤ 600128 by omega, show w0 + 6 ≤ 7301064 by omega⟩ (fun x_2 σ1 H locs h hw => ?_)
  refine lv_istore (lv' := [(6, .int x_2), (0, .ref b), (1, .ref (ck_ad G 0 0)), (2, .ref (ck_ad G 10 0)), (3, .ref (ck_ad G 21 0)), (4, .ref (ck_ad G 22 0)), (5, .int x5)]) hx hb dL_law_627 hl (by decide) rfl (fun ls hl => ?_)
  refine lv_aload_n hx hb dL_law_629 rfl (lv_at hl 3 rfl) ?_
  refine lv_aload_n hx hb dL_law_630 rfl (lv_at hl 1 rfl) ?_
  refine lv_iload hx hb dL_law_631 (lv_at hl 6 rfl) ?_
  refine lv_iconst (v := 1) hx hb dL_law_633 (by decide) ?_
  refine lv_iadd hx hb dL_law_634 ?_
  refine lv_topi (fun x_3 ex_3 => ?_)
  have h := h x_3 ex_3
  obtain ⟨n4, h⟩ := h
  refine va_sld hx hb hX hbl hbA hw.2.2.2 n4 dL_law_635 ?_
  obtain ⟨hA, hB⟩ := h
  refine lv_if_eq (tgt := 643) hx hb dL_law_636 (by decide) (fun c5 => ?_) (fun c5 => ?_)
  · have h := hA c5
    refine lv_iconst (v := 0) hx hb dL_law_643 (by decide) ?_
    exact wk_law_644 C hC hM hO21 hO22 hc0 hw0 hK h hw (lv_sub hl [1, 2, 3, 4, 5, 6, 0] rfl)
  · have h := hB c5
    refine lv_iconst (v := 1) hx hb dL_law_639 (by decide) ?_
    refine lv_goto (tgt := 644) hx hb dL_law_640 (by decide) ?_
    exact wk_law_644 C hC hM hO21 hO22 hc0 hw0 hK h hw (lv_sub hl [1, 2, 3, 4, 5, 6, 0] rfl)
set_option maxHeartbeats 4000000 in
set_option maxRecDepth 100000 in
theorem wk_law_609 {p : Program} {l : Launch} {e : Env} {s : State} {m : MethodId} {args : Array Value} {below : List Frame} {meth : Method} {c : Code} {G : ck_G} {b L : Nat} {xs : Nat → Int32} {Q : State → Prop} {c0 w0 : Nat} (C : ck_LX p l s m meth c args b L xs G) (hC : ck_inC G) (hM : ck_inM G) (hO21 : (21, 0) ∈ ck_Ls G) (hO22 : (22, 0) ∈ ck_Ls G) (hc0 : c0 + 20 ≤ 600128) (hw0 : w0 + 200 ≤ 7301064) {K : ck_S → Int32 → Prop} (hK : ∀ (σ : ck_S) (x5 : Int32) (H : Heap) (locs : List Loc) (ls : Array Slot), K σ x5 → ck_H G s H locs σ → lv_has ls 9 [(0, .ref b), (1, .ref (ck_ad G 0 0)), (2, .ref (ck_ad G 10 0)), (3, .ref (ck_ad G 21 0)), (4, .ref (ck_ad G 22 0)), (5, .int x5)] → W p l e room_1 s m args below meth c H locs (c0 + 20) (w0 + 200) Q (F0 m 1534 ls [])) {σ : ck_S} {x5 : Int32} {H : Heap} {locs : List Loc} {ls : Array Slot} (h : sp_law_609 (ck_nc G) (ck_nb G) xs L K σ x5) (hw : ck_H G s H locs σ) (hl : lv_has ls 9 [(0, .ref b), (1, .ref (ck_ad G 0 0)), (2, .ref (ck_ad G 10 0)), (3, .ref (ck_ad G 21 0)), (4, .ref (ck_ad G 22 0)), (5, .int x5)]) : W p l e room_1 s m args below meth c H locs (c0 + 0) (w0 + 0) Q (F0 m 609 ls []) := by
  obtain ⟨hx, hb, hr, hml, hown, hts, hlocks, hlt, hE, hX, hbl, hbA⟩ := id C
  unfold sp_law_609 at h
  refine lv_aload_n hx hb dL_law_609 rfl (lv_at hl 1 rfl) ?_
  refine lv_aload_n hx hb dL_law_610 rfl (lv_at hl 0 rfl) ?_
  refine lv_iload hx hb dL_law_611 (lv_at hl 5 rfl) ?_
  refine lv_iconst (v := 1) hx hb dL_law_613 (by decide) ?_
  refine lv_iadd hx hb dL_law_614 ?_
  refine lv_topi (fun x_1 ex_1 => ?_)
  have h := h x_1 ex_1
  obtain ⟨n2, h⟩ := h
  refine va_sld hx hb hX hbl hbA hw.2.2.2 n2 dL_law_615 ?_
  obtain ⟨hA, hB⟩ := h
  refine lv_if_eq (tgt := 623) hx hb dL_law_616 (by decide) (fun c3 => ?_) (fun c3 => ?_)
  · have h := hA c3
    refine lv_iconst (v := 0) hx hb dL_law_623 (by decide) ?_
    exact wk_law_624 C hC hM hO21 hO22 hc0 hw0 hK h hw (lv_sub hl [0, 1, 2, 3, 4, 5] rfl)
  · have h := hB c3
    refine lv_iconst (v := 1) hx hb dL_law_619 (by decide) ?_
    refine lv_goto (tgt := 624) hx hb dL_law_620 (by decide) ?_
    exact wk_law_624 C hC hM hO21 hO22 hc0 hw0 hK h hw (lv_sub hl [0, 1, 2, 3, 4, 5] rfl)
set_option maxHeartbeats 4000000 in
set_option maxRecDepth 100000 in
theorem wk_law_661 {p : Program} {l : Launch} {e : Env} {s : State} {m : MethodId} {args : Array Value} {below : List Frame} {meth : Method} {c : Code} {G : ck_G} {b L : Nat} {xs : Nat → Int32} {Q : State → Prop} {c0 w0 : Nat} (C : ck_LX p l s m meth c args b L xs G) (hC : ck_inC G) (hM : ck_inM G) (hO21 : (21, 0) ∈ ck_Ls G) (hO22 : (22, 0) ∈ ck_Ls G) (hc0 : c0 + 20 ≤ 600128) (hw0 : w0 + 200 ≤ 7301064) {K : ck_S → Int32 → Prop} (hK : ∀ (σ : ck_S) (x5 : Int32) (H : Heap) (locs : List Loc) (ls : Array Slot), K σ x5 → ck_H G s H locs σ → lv_has ls 9 [(0, .ref b), (1, .ref (ck_ad G 0 0)), (2, .ref (ck_ad G 10 0)), (3, .ref (ck_ad G 21 0)), (4, .ref (ck_ad G 22 0)), (5, .int x5)] → W p l e room_1 s m args below meth c H locs (c0 + 20) (w0 + 200) Q (F0 m 1534 ls [])) {σ : ck_S} {x5 : Int32} {H : Heap} {locs : List Loc} {ls : Array Slot} (h : sp_law_661 (ck_nc G) (ck_nb G) xs L K σ x5) (hw : ck_H G s H locs σ) (hl : lv_has ls 9 [(0, .ref b), (1, .ref (ck_ad G 0 0)), (2, .ref (ck_ad G 10 0)), (3, .ref (ck_ad G 21 0)), (4, .ref (ck_ad G 22 0)), (5, .int x5)]) : W p l e room_1 s m args below meth c H locs (c0 + 0) (w0 + 0) Q (F0 m 661 ls []) := by
  obtain ⟨hx, hb, hr, hml, hown, hts, hlocks, hlt, hE, hX, hbl, hbA⟩ := id C
  unfold sp_law_661 at h
  refine lv_aload_n hx hb dL_law_661 rfl (lv_at hl 1 rfl) ?_
  refine lv_aload_n hx hb dL_law_662 rfl (lv_at hl 0 rfl) ?_
  refine lv_iload hx hb dL_law_663 (lv_at hl 5 rfl) ?_
  refine lv_iconst (v := 1) hx hb dL_law_665 (by decide) ?_
  refine lv_iadd hx hb dL_law_666 ?_
  refine lv_topi (fun x_1 ex_1 => ?_)
  have h := h x_1 ex_1
  obtain ⟨n2, h⟩ := h
  refine va_sld hx hb hX hbl hbA hw.2.2.2 n2 dL_law_667 ?_
  refine lv_i2d hx hb dL_law_668 ?_
  refine lv_ldc2d hx hb hown (hts _ tx_1) dL_law_669 ?_
  obtain ⟨n3, h⟩ := h
  refine lv_dmul hx hb dL_law_672 n3 ?_
  refine ck_wcallSi (rest := []) ⟨hx, hb, hml, hown, hts⟩ hw hE (ct_L_set l hlt G hC h) (vx_cwSW 2 hts gT_L_set rfl rfl rfl (by decide +kernel) ⟨(Nat.le_of_ble_eq_true rfl), (Nat.le_of_ble_eq_true rfl)⟩) rfl hl.1 rfl (Nat.le_of_ble_eq_true rfl) dL_law_673 ⟨show c0 + 2 ≤ 600128 by omega, show w0 + 12 ≤ 7301064 by omega⟩ (fun x_5 σ4 H locs h hw => ?_)
  refine lv_istore (lv' := [(6, .int x_5), (0, .ref b), (1, .ref (ck_ad G 0 0)), (2, .ref (ck_ad G 10 0)), (3, .ref (ck_ad G 21 0)), (4, .ref (ck_ad G 22 0)), (5, .int x5)]) hx hb dL_law_676 hl (by decide) rfl (fun ls hl => ?_)
  refine lv_aload_n hx hb dL_law_678 rfl (lv_at hl 3 rfl) ?_
  refine lv_aload_n hx hb dL_law_679 rfl (lv_at hl 1 rfl) ?_
  refine lv_iload hx hb dL_law_680 (lv_at hl 6 rfl) ?_
  refine lv_iconst (v := 1) hx hb dL_law_682 (by decide) ?_
  refine lv_iadd hx hb dL_law_683 ?_
  refine lv_topi (fun x_6 ex_6 => ?_)
  have h := h x_6 ex_6
  obtain ⟨n7, h⟩ := h
  refine va_sld hx hb hX hbl hbA hw.2.2.2 n7 dL_law_684 ?_
  refine lv_i2d hx hb dL_law_685 ?_
  refine lv_ldc2d hx hb hown (hts _ tx_1) dL_law_686 ?_
  obtain ⟨n8, h⟩ := h
  refine lv_dmul hx hb dL_law_689 n8 ?_
  refine ck_callVv (rest := []) ⟨hx, hb, hml, hown, hts⟩ hw (hM 10 (by decide) (by decide)) rfl rfl (ct_X7_set l G hM h) (cwV 1 hts gT_X7_set rfl rfl rfl (by decide +kernel) ⟨(Nat.le_of_ble_eq_true rfl), (Nat.le_of_ble_eq_true rfl)⟩) rfl hl.1 rfl (Nat.le_of_ble_eq_true rfl) dL_law_690 ⟨show c0 + 2 ≤ 600128 by omega, show w0 + 12 ≤ 7301064 by omega⟩ (fun σ9 H locs h hw => ?_)
  refine lv_aload_n hx hb dL_law_693 rfl (lv_at hl 3 rfl) ?_
  refine ck_callVi (rest := []) ⟨hx, hb, hml, hown, hts⟩ hw (hM 10 (by decide) (by decide)) rfl rfl (ct_X7_thrown l G hM h) (cwV 0 hts gT_X7_thrown rfl rfl rfl (by decide +kernel) ⟨(Nat.le_of_ble_eq_true rfl), (Nat.le_of_ble_eq_true rfl)⟩) rfl hl.1 rfl (Nat.le_of_ble_eq_true rfl) dL_law_694 ⟨show c0 + 2 ≤ 600128 by omega, show w0 + 12 ≤ 7301064 by omega⟩ (fun x_12 σ11 H locs h hw => ?_)
  refine lv_iload hx hb dL_law_697 (lv_at hl 0 rfl) ?_
  obtain ⟨hA, hB⟩ := h
  refine lv_icmp_eq (tgt := 704) hx hb dL_law_699 (by decide) (fun c13 => ?_) (fun c13 => ?_)
  · have h := hA c13
    refine lv_goto (tgt := 1534) hx hb dL_law_704 (by decide) ?_
    refine W.widen (k := c0 + 20) (n := w0 + 200) (show c0 + 2 ≤ c0 + 20 by omega) (show w0 + 12 ≤ w0 + 200 by omega) ?_
    exact hK _ _ _ _ _ h hw (lv_sub hl [1, 2, 3, 4, 5, 6] rfl)
  · have h := hB c13
    refine lv_iconst (v := 0) hx hb dL_law_702 (by decide) ?_
    exact h.elim
set_option maxHeartbeats 4000000 in
set_option maxRecDepth 100000 in
theorem wk_law_760 {p : Program} {l : Launch} {e : Env} {s : State} {m : MethodId} {args : Array Value} {below : List Frame} {meth : Method} {c : Code} {G : ck_G} {b L : Nat} {xs : Nat → Int32} {Q : State → Prop} {c0 w0 : Nat} (C : ck_LX p l s m meth c args b L xs G) (hC : ck_inC G) (hM : ck_inM G) (hO21 : (21, 0) ∈ ck_Ls G) (hO22 : (22, 0) ∈ ck_Ls G) (hc0 : c0 + 20 ≤ 600128) (hw0 : w0 + 200 ≤ 7301064) {K : ck_S → Int32 → Prop} (hK : ∀ (σ : ck_S) (x5 : Int32) (H : Heap) (locs : List Loc) (ls : Array Slot), K σ x5 → ck_H G s H locs σ → lv_has ls 9 [(0, .ref b), (1, .ref (ck_ad G 0 0)), (2, .ref (ck_ad G 10 0)), (3, .ref (ck_ad G 21 0)), (4, .ref (ck_ad G 22 0)), (5, .int x5)] → W p l e room_1 s m args below meth c H locs (c0 + 20) (w0 + 200) Q (F0 m 1534 ls [])) {σ : ck_S} {x5 : Int32} {H : Heap} {locs : List Loc} {ls : Array Slot} (h : sp_law_760 (ck_nc G) (ck_nb G) xs L K σ x5) (hw : ck_H G s H locs σ) (hl : lv_has ls 9 [(0, .ref b), (1, .ref (ck_ad G 0 0)), (2, .ref (ck_ad G 10 0)), (3, .ref (ck_ad G 21 0)), (4, .ref (ck_ad G 22 0)), (5, .int x5)]) : W p l e room_1 s m args below meth c H locs (c0 + 2) (w0 + 12) Q (F0 m 760 ls []) := by
  obtain ⟨hx, hb, hr, hml, hown, hts, hlocks, hlt, hE, hX, hbl, hbA⟩ := id C
  unfold sp_law_760 at h
  refine lv_goto (tgt := 1534) hx hb dL_law_760 (by decide) ?_
  refine W.widen (k := c0 + 20) (n := w0 + 200) (show c0 + 2 ≤ c0 + 20 by omega) (show w0 + 12 ≤ w0 + 200 by omega) ?_
  exact hK _ _ _ _ _ h hw (lv_sub hl [0, 1, 2, 3, 4, 5] rfl)
set_option maxHeartbeats 4000000 in
set_option maxRecDepth 100000 in
theorem wk_law_707 {p : Program} {l : Launch} {e : Env} {s : State} {m : MethodId} {args : Array Value} {below : List Frame} {meth : Method} {c : Code} {G : ck_G} {b L : Nat} {xs : Nat → Int32} {Q : State → Prop} {c0 w0 : Nat} (C : ck_LX p l s m meth c args b L xs G) (hC : ck_inC G) (hM : ck_inM G) (hO21 : (21, 0) ∈ ck_Ls G) (hO22 : (22, 0) ∈ ck_Ls G) (hc0 : c0 + 20 ≤ 600128) (hw0 : w0 + 200 ≤ 7301064) {K : ck_S → Int32 → Prop} (hK : ∀ (σ : ck_S) (x5 : Int32) (H : Heap) (locs : List Loc) (ls : Array Slot), K σ x5 → ck_H G s H locs σ → lv_has ls 9 [(0, .ref b), (1, .ref (ck_ad G 0 0)), (2, .ref (ck_ad G 10 0)), (3, .ref (ck_ad G 21 0)), (4, .ref (ck_ad G 22 0)), (5, .int x5)] → W p l e room_1 s m args below meth c H locs (c0 + 20) (w0 + 200) Q (F0 m 1534 ls [])) {σ : ck_S} {x5 : Int32} {H : Heap} {locs : List Loc} {ls : Array Slot} (h : sp_law_707 (ck_nc G) (ck_nb G) xs L K σ x5) (hw : ck_H G s H locs σ) (hl : lv_has ls 9 [(0, .ref b), (1, .ref (ck_ad G 0 0)), (2, .ref (ck_ad G 10 0)), (3, .ref (ck_ad G 21 0)), (4, .ref (ck_ad G 22 0)), (5, .int x5)]) : W p l e room_1 s m args below meth c H locs (c0 + 0) (w0 + 0) Q (F0 m 707 ls []) := by
  obtain ⟨hx, hb, hr, hml, hown, hts, hlocks, hlt, hE, hX, hbl, hbA⟩ := id C
  unfold sp_law_707 at h
  refine lv_aload_n hx hb dL_law_707 rfl (lv_at hl 1 rfl) ?_
  refine lv_aload_n hx hb dL_law_708 rfl (lv_at hl 0 rfl) ?_
  refine lv_iload hx hb dL_law_709 (lv_at hl 5 rfl) ?_
  refine lv_iconst (v := 1) hx hb dL_law_711 (by decide) ?_
  refine lv_iadd hx hb dL_law_712 ?_
  refine lv_topi (fun x_1 ex_1 => ?_)
  have h := h x_1 ex_1
  obtain ⟨n2, h⟩ := h
  refine va_sld hx hb hX hbl hbA hw.2.2.2 n2 dL_law_713 ?_
  refine lv_aload_n hx hb dL_law_714 rfl (lv_at hl 3 rfl) ?_
  refine ck_wcallSi (rest := []) ⟨hx, hb, hml, hown, hts⟩ hw hE (ct_L_tick l hlt G hO21 hC h) (vx_cwSW 3 hts gT_L_tick rfl rfl rfl (by decide +kernel) ⟨(Nat.le_of_ble_eq_true rfl), (Nat.le_of_ble_eq_true rfl)⟩) rfl hl.1 rfl (Nat.le_of_ble_eq_true rfl) dL_law_715 ⟨show c0 + 2 ≤ 600128 by omega, show w0 + 12 ≤ 7301064 by omega⟩ (fun x_4 σ3 H locs h hw => ?_)
  refine lv_istore (lv' := [(6, .int x_4), (0, .ref b), (1, .ref (ck_ad G 0 0)), (2, .ref (ck_ad G 10 0)), (3, .ref (ck_ad G 21 0)), (4, .ref (ck_ad G 22 0)), (5, .int x5)]) hx hb dL_law_718 hl (by decide) rfl (fun ls hl => ?_)
  refine lv_aload_n hx hb dL_law_720 rfl (lv_at hl 3 rfl) ?_
  refine lv_aload_n hx hb dL_law_721 rfl (lv_at hl 1 rfl) ?_
  refine lv_iload hx hb dL_law_722 (lv_at hl 6 rfl) ?_
  refine lv_iconst (v := 1) hx hb dL_law_724 (by decide) ?_
  refine lv_iadd hx hb dL_law_725 ?_
  refine lv_topi (fun x_5 ex_5 => ?_)
  have h := h x_5 ex_5
  obtain ⟨n6, h⟩ := h
  refine va_sld hx hb hX hbl hbA hw.2.2.2 n6 dL_law_726 ?_
  refine ck_callVi (rest := []) ⟨hx, hb, hml, hown, hts⟩ hw (hM 10 (by decide) (by decide)) rfl rfl (ct_X7_tick l G hM h) (cwV 1 hts gT_X7_tick rfl rfl rfl (by decide +kernel) ⟨(Nat.le_of_ble_eq_true rfl), (Nat.le_of_ble_eq_true rfl)⟩) rfl hl.1 rfl (Nat.le_of_ble_eq_true rfl) dL_law_727 ⟨show c0 + 2 ≤ 600128 by omega, show w0 + 12 ≤ 7301064 by omega⟩ (fun x_8 σ7 H locs h hw => ?_)
  refine lv_istore (lv' := [(7, .int x_8), (6, .int x_4), (0, .ref b), (1, .ref (ck_ad G 0 0)), (2, .ref (ck_ad G 10 0)), (3, .ref (ck_ad G 21 0)), (4, .ref (ck_ad G 22 0)), (5, .int x5)]) hx hb dL_law_730 hl (by decide) rfl (fun ls hl => ?_)
  refine lv_aload_n hx hb dL_law_732 rfl (lv_at hl 4 rfl) ?_
  refine ck_callVi (rest := []) ⟨hx, hb, hml, hown, hts⟩ hw (hM 10 (by decide) (by decide)) rfl rfl (ct_X7_thrown l G hM h) (cwV 0 hts gT_X7_thrown rfl rfl rfl (by decide +kernel) ⟨(Nat.le_of_ble_eq_true rfl), (Nat.le_of_ble_eq_true rfl)⟩) rfl hl.1 rfl (Nat.le_of_ble_eq_true rfl) dL_law_733 ⟨show c0 + 2 ≤ 600128 by omega, show w0 + 12 ≤ 7301064 by omega⟩ (fun x_10 σ9 H locs h hw => ?_)
  refine lv_iload hx hb dL_law_736 (lv_at hl 1 rfl) ?_
  obtain ⟨hA, hB⟩ := h
  refine lv_icmp_eq (tgt := 743) hx hb dL_law_738 (by decide) (fun c11 => ?_) (fun c11 => ?_)
  · have h := hA c11
    refine lv_iload hx hb dL_law_743 (lv_at hl 1 rfl) ?_
    obtain ⟨hA, hB⟩ := h
    refine lv_if_ne (tgt := 760) hx hb dL_law_745 (by decide) (fun c12 => ?_) (fun c12 => ?_)
    · have h := hA c12
      exact wk_law_760 C hC hM hO21 hO22 hc0 hw0 hK h hw (lv_sub hl [2, 3, 4, 5, 6, 7] rfl)
    · have h := hB c12
      refine lv_aload_n hx hb dL_law_748 rfl (lv_at hl 5 rfl) ?_
      refine lv_iconst (v := 0) hx hb dL_law_749 (by decide) ?_
      obtain ⟨n13, h⟩ := h
      refine ck_lald hx hb hw hO21 rfl n13 dL_law_750 ?_
      refine lv_iload hx hb dL_law_751 (lv_at hl 0 rfl) ?_
      refine lv_i2l hx hb dL_law_753 rfl ?_
      refine W.lcmp hx hb dL_law_754 ?_
      obtain ⟨hA, hB⟩ := h
      refine lv_if_eq (tgt := 760) hx hb dL_law_755 (by decide) (fun c14 => ?_) (fun c14 => ?_)
      · have h := hA c14
        exact wk_law_760 C hC hM hO21 hO22 hc0 hw0 hK h hw (lv_sub hl [2, 3, 4, 5, 6, 7] rfl)
      · have h := hB c14
        refine lv_iconst (v := 0) hx hb dL_law_758 (by decide) ?_
        exact h.elim
  · have h := hB c11
    refine lv_iconst (v := 0) hx hb dL_law_741 (by decide) ?_
    exact h.elim
set_option maxHeartbeats 4000000 in
set_option maxRecDepth 100000 in
theorem wk_law_823 {p : Program} {l : Launch} {e : Env} {s : State} {m : MethodId} {args : Array Value} {below : List Frame} {meth : Method} {c : Code} {G : ck_G} {b L : Nat} {xs : Nat → Int32} {Q : State → Prop} {c0 w0 : Nat} (C : ck_LX p l s m meth c args b L xs G) (hC : ck_inC G) (hM : ck_inM G) (hO21 : (21, 0) ∈ ck_Ls G) (hO22 : (22, 0) ∈ ck_Ls G) (hc0 : c0 + 20 ≤ 600128) (hw0 : w0 + 200 ≤ 7301064) {K : ck_S → Int32 → Prop} (hK : ∀ (σ : ck_S) (x5 : Int32) (H : Heap) (locs : List Loc) (ls : Array Slot), K σ x5 → ck_H G s H locs σ → lv_has ls 9 [(0, .ref b), (1, .ref (ck_ad G 0 0)), (2, .ref (ck_ad G 10 0)), (3, .ref (ck_ad G 21 0)), (4, .ref (ck_ad G 22 0)), (5, .int x5)] → W p l e room_1 s m args below meth c H locs (c0 + 20) (w0 + 200) Q (F0 m 1534 ls [])) {σ : ck_S} {x5 : Int32} {H : Heap} {locs : List Loc} {ls : Array Slot} (h : sp_law_823 (ck_nc G) (ck_nb G) xs L K σ x5) (hw : ck_H G s H locs σ) (hl : lv_has ls 9 [(0, .ref b), (1, .ref (ck_ad G 0 0)), (2, .ref (ck_ad G 10 0)), (3, .ref (ck_ad G 21 0)), (4, .ref (ck_ad G 22 0)), (5, .int x5)]) : W p l e room_1 s m args below meth c H locs (c0 + 2) (w0 + 12) Q (F0 m 823 ls []) := by
  obtain ⟨hx, hb, hr, hml, hown, hts, hlocks, hlt, hE, hX, hbl, hbA⟩ := id C
  unfold sp_law_823 at h
  refine lv_goto (tgt := 1534) hx hb dL_law_823 (by decide) ?_
  refine W.widen (k := c0 + 20) (n := w0 + 200) (show c0 + 2 ≤ c0 + 20 by omega) (show w0 + 12 ≤ w0 + 200 by omega) ?_
  exact hK _ _ _ _ _ h hw (lv_sub hl [0, 1, 2, 3, 4, 5] rfl)
set_option maxHeartbeats 4000000 in
set_option maxRecDepth 100000 in
theorem wk_law_817 {p : Program} {l : Launch} {e : Env} {s : State} {m : MethodId} {args : Array Value} {below : List Frame} {meth : Method} {c : Code} {G : ck_G} {b L : Nat} {xs : Nat → Int32} {Q : State → Prop} {c0 w0 : Nat} (C : ck_LX p l s m meth c args b L xs G) (hC : ck_inC G) (hM : ck_inM G) (hO21 : (21, 0) ∈ ck_Ls G) (hO22 : (22, 0) ∈ ck_Ls G) (hc0 : c0 + 20 ≤ 600128) (hw0 : w0 + 200 ≤ 7301064) {K : ck_S → Int32 → Prop} (hK : ∀ (σ : ck_S) (x5 : Int32) (H : Heap) (locs : List Loc) (ls : Array Slot), K σ x5 → ck_H G s H locs σ → lv_has ls 9 [(0, .ref b), (1, .ref (ck_ad G 0 0)), (2, .ref (ck_ad G 10 0)), (3, .ref (ck_ad G 21 0)), (4, .ref (ck_ad G 22 0)), (5, .int x5)] → W p l e room_1 s m args below meth c H locs (c0 + 20) (w0 + 200) Q (F0 m 1534 ls [])) {σ : ck_S} {x5 : Int32} {s0 : Int64} {s1 : Int64} {H : Heap} {locs : List Loc} {ls : Array Slot} (h : sp_law_817 (ck_nc G) (ck_nb G) xs L K σ x5 s0 s1) (hw : ck_H G s H locs σ) (hl : lv_has ls 9 [(0, .ref b), (1, .ref (ck_ad G 0 0)), (2, .ref (ck_ad G 10 0)), (3, .ref (ck_ad G 21 0)), (4, .ref (ck_ad G 22 0)), (5, .int x5)]) : W p l e room_1 s m args below meth c H locs (c0 + 2) (w0 + 12) Q (F0 m 817 ls [.long s0, .long s1]) := by
  obtain ⟨hx, hb, hr, hml, hown, hts, hlocks, hlt, hE, hX, hbl, hbA⟩ := id C
  unfold sp_law_817 at h
  refine W.lcmp hx hb dL_law_817 ?_
  obtain ⟨hA, hB⟩ := h
  refine lv_if_eq (tgt := 823) hx hb dL_law_818 (by decide) (fun c1 => ?_) (fun c1 => ?_)
  · have h := hA c1
    exact wk_law_823 C hC hM hO21 hO22 hc0 hw0 hK h hw (lv_sub hl [0, 1, 2, 3, 4, 5] rfl)
  · have h := hB c1
    refine lv_iconst (v := 0) hx hb dL_law_821 (by decide) ?_
    exact h.elim
set_option maxHeartbeats 4000000 in
set_option maxRecDepth 100000 in
theorem wk_law_763 {p : Program} {l : Launch} {e : Env} {s : State} {m : MethodId} {args : Array Value} {below : List Frame} {meth : Method} {c : Code} {G : ck_G} {b L : Nat} {xs : Nat → Int32} {Q : State → Prop} {c0 w0 : Nat} (C : ck_LX p l s m meth c args b L xs G) (hC : ck_inC G) (hM : ck_inM G) (hO21 : (21, 0) ∈ ck_Ls G) (hO22 : (22, 0) ∈ ck_Ls G) (hc0 : c0 + 20 ≤ 600128) (hw0 : w0 + 200 ≤ 7301064) {K : ck_S → Int32 → Prop} (hK : ∀ (σ : ck_S) (x5 : Int32) (H : Heap) (locs : List Loc) (ls : Array Slot), K σ x5 → ck_H G s H locs σ → lv_has ls 9 [(0, .ref b), (1, .ref (ck_ad G 0 0)), (2, .ref (ck_ad G 10 0)), (3, .ref (ck_ad G 21 0)), (4, .ref (ck_ad G 22 0)), (5, .int x5)] → W p l e room_1 s m args below meth c H locs (c0 + 20) (w0 + 200) Q (F0 m 1534 ls [])) {σ : ck_S} {x5 : Int32} {H : Heap} {locs : List Loc} {ls : Array Slot} (h : sp_law_763 (ck_nc G) (ck_nb G) xs L K σ x5) (hw : ck_H G s H locs σ) (hl : lv_has ls 9 [(0, .ref b), (1, .ref (ck_ad G 0 0)), (2, .ref (ck_ad G 10 0)), (3, .ref (ck_ad G 21 0)), (4, .ref (ck_ad G 22 0)), (5, .int x5)]) : W p l e room_1 s m args below meth c H locs (c0 + 0) (w0 + 0) Q (F0 m 763 ls []) := by
  obtain ⟨hx, hb, hr, hml, hown, hts, hlocks, hlt, hE, hX, hbl, hbA⟩ := id C
  unfold sp_law_763 at h
  refine lv_aload_n hx hb dL_law_763 rfl (lv_at hl 1 rfl) ?_
  refine lv_aload_n hx hb dL_law_764 rfl (lv_at hl 0 rfl) ?_
  refine lv_iload hx hb dL_law_765 (lv_at hl 5 rfl) ?_
  refine lv_iconst (v := 1) hx hb dL_law_767 (by decide) ?_
  refine lv_iadd hx hb dL_law_768 ?_
  refine lv_topi (fun x_1 ex_1 => ?_)
  have h := h x_1 ex_1
  obtain ⟨n2, h⟩ := h
  refine va_sld hx hb hX hbl hbA hw.2.2.2 n2 dL_law_769 ?_
  refine lv_aload_n hx hb dL_law_770 rfl (lv_at hl 3 rfl) ?_
  refine ck_wcallSi (rest := []) ⟨hx, hb, hml, hown, hts⟩ hw hE (ct_L_reset l hlt G hO21 hC h) (vx_cwSW 3 hts gT_L_reset rfl rfl rfl (by decide +kernel) ⟨(Nat.le_of_ble_eq_true rfl), (Nat.le_of_ble_eq_true rfl)⟩) rfl hl.1 rfl (Nat.le_of_ble_eq_true rfl) dL_law_771 ⟨show c0 + 2 ≤ 600128 by omega, show w0 + 12 ≤ 7301064 by omega⟩ (fun x_4 σ3 H locs h hw => ?_)
  refine lv_istore (lv' := [(6, .int x_4), (0, .ref b), (1, .ref (ck_ad G 0 0)), (2, .ref (ck_ad G 10 0)), (3, .ref (ck_ad G 21 0)), (4, .ref (ck_ad G 22 0)), (5, .int x5)]) hx hb dL_law_774 hl (by decide) rfl (fun ls hl => ?_)
  refine lv_aload_n hx hb dL_law_776 rfl (lv_at hl 3 rfl) ?_
  refine lv_aload_n hx hb dL_law_777 rfl (lv_at hl 1 rfl) ?_
  refine lv_iload hx hb dL_law_778 (lv_at hl 6 rfl) ?_
  refine lv_iconst (v := 1) hx hb dL_law_780 (by decide) ?_
  refine lv_iadd hx hb dL_law_781 ?_
  refine lv_topi (fun x_5 ex_5 => ?_)
  have h := h x_5 ex_5
  obtain ⟨n6, h⟩ := h
  refine va_sld hx hb hX hbl hbA hw.2.2.2 n6 dL_law_782 ?_
  refine ck_callVi (rest := []) ⟨hx, hb, hml, hown, hts⟩ hw (hM 10 (by decide) (by decide)) rfl rfl (ct_X7_reset l G hM h) (cwV 1 hts gT_X7_reset rfl rfl rfl (by decide +kernel) ⟨(Nat.le_of_ble_eq_true rfl), (Nat.le_of_ble_eq_true rfl)⟩) rfl hl.1 rfl (Nat.le_of_ble_eq_true rfl) dL_law_783 ⟨show c0 + 2 ≤ 600128 by omega, show w0 + 12 ≤ 7301064 by omega⟩ (fun x_8 σ7 H locs h hw => ?_)
  refine lv_istore (lv' := [(7, .int x_8), (6, .int x_4), (0, .ref b), (1, .ref (ck_ad G 0 0)), (2, .ref (ck_ad G 10 0)), (3, .ref (ck_ad G 21 0)), (4, .ref (ck_ad G 22 0)), (5, .int x5)]) hx hb dL_law_786 hl (by decide) rfl (fun ls hl => ?_)
  refine lv_aload_n hx hb dL_law_788 rfl (lv_at hl 4 rfl) ?_
  refine ck_callVi (rest := []) ⟨hx, hb, hml, hown, hts⟩ hw (hM 10 (by decide) (by decide)) rfl rfl (ct_X7_thrown l G hM h) (cwV 0 hts gT_X7_thrown rfl rfl rfl (by decide +kernel) ⟨(Nat.le_of_ble_eq_true rfl), (Nat.le_of_ble_eq_true rfl)⟩) rfl hl.1 rfl (Nat.le_of_ble_eq_true rfl) dL_law_789 ⟨show c0 + 2 ≤ 600128 by omega, show w0 + 12 ≤ 7301064 by omega⟩ (fun x_10 σ9 H locs h hw => ?_)
  refine lv_iload hx hb dL_law_792 (lv_at hl 1 rfl) ?_
  obtain ⟨hA, hB⟩ := h
  refine lv_icmp_eq (tgt := 799) hx hb dL_law_794 (by decide) (fun c11 => ?_) (fun c11 => ?_)
  · have h := hA c11
    refine lv_iload hx hb dL_law_799 (lv_at hl 1 rfl) ?_
    obtain ⟨hA, hB⟩ := h
    refine lv_if_ne (tgt := 823) hx hb dL_law_801 (by decide) (fun c12 => ?_) (fun c12 => ?_)
    · have h := hA c12
      exact wk_law_823 C hC hM hO21 hO22 hc0 hw0 hK h hw (lv_sub hl [2, 3, 4, 5, 6, 7] rfl)
    · have h := hB c12
      refine lv_aload_n hx hb dL_law_804 rfl (lv_at hl 5 rfl) ?_
      refine lv_iconst (v := 0) hx hb dL_law_805 (by decide) ?_
      obtain ⟨n13, h⟩ := h
      refine ck_lald hx hb hw hO21 rfl n13 dL_law_806 ?_
      refine lv_topl (fun y_14 ey_14 => ?_)
      have h := h y_14 ey_14
      refine lv_iload hx hb dL_law_807 (lv_at hl 0 rfl) ?_
      obtain ⟨hA, hB⟩ := h
      refine lv_if_eq (tgt := 816) hx hb dL_law_809 (by decide) (fun c15 => ?_) (fun c15 => ?_)
      · have h := hA c15
        refine lv_lconst (v := 0) hx hb dL_law_816 (by decide) ?_
        exact wk_law_817 C hC hM hO21 hO22 hc0 hw0 hK h hw (lv_sub hl [2, 3, 4, 5, 6, 7] rfl)
      · have h := hB c15
        refine lv_lconst (v := 1) hx hb dL_law_812 (by decide) ?_
        refine lv_goto (tgt := 817) hx hb dL_law_813 (by decide) ?_
        exact wk_law_817 C hC hM hO21 hO22 hc0 hw0 hK h hw (lv_sub hl [2, 3, 4, 5, 6, 7] rfl)
  · have h := hB c11
    refine lv_iconst (v := 0) hx hb dL_law_797 (by decide) ?_
    exact h.elim
set_option maxHeartbeats 4000000 in
set_option maxRecDepth 100000 in
theorem wk_law_826 {p : Program} {l : Launch} {e : Env} {s : State} {m : MethodId} {args : Array Value} {below : List Frame} {meth : Method} {c : Code} {G : ck_G} {b L : Nat} {xs : Nat → Int32} {Q : State → Prop} {c0 w0 : Nat} (C : ck_LX p l s m meth c args b L xs G) (hC : ck_inC G) (hM : ck_inM G) (hO21 : (21, 0) ∈ ck_Ls G) (hO22 : (22, 0) ∈ ck_Ls G) (hc0 : c0 + 20 ≤ 600128) (hw0 : w0 + 200 ≤ 7301064) {K : ck_S → Int32 → Prop} (hK : ∀ (σ : ck_S) (x5 : Int32) (H : Heap) (locs : List Loc) (ls : Array Slot), K σ x5 → ck_H G s H locs σ → lv_has ls 9 [(0, .ref b), (1, .ref (ck_ad G 0 0)), (2, .ref (ck_ad G 10 0)), (3, .ref (ck_ad G 21 0)), (4, .ref (ck_ad G 22 0)), (5, .int x5)] → W p l e room_1 s m args below meth c H locs (c0 + 20) (w0 + 200) Q (F0 m 1534 ls [])) {σ : ck_S} {x5 : Int32} {H : Heap} {locs : List Loc} {ls : Array Slot} (h : sp_law_826 (ck_nc G) (ck_nb G) xs L K σ x5) (hw : ck_H G s H locs σ) (hl : lv_has ls 9 [(0, .ref b), (1, .ref (ck_ad G 0 0)), (2, .ref (ck_ad G 10 0)), (3, .ref (ck_ad G 21 0)), (4, .ref (ck_ad G 22 0)), (5, .int x5)]) : W p l e room_1 s m args below meth c H locs (c0 + 0) (w0 + 0) Q (F0 m 826 ls []) := by
  obtain ⟨hx, hb, hr, hml, hown, hts, hlocks, hlt, hE, hX, hbl, hbA⟩ := id C
  unfold sp_law_826 at h
  refine lv_aload_n hx hb dL_law_826 rfl (lv_at hl 1 rfl) ?_
  refine lv_aload_n hx hb dL_law_827 rfl (lv_at hl 0 rfl) ?_
  refine lv_iload hx hb dL_law_828 (lv_at hl 5 rfl) ?_
  refine lv_iconst (v := 1) hx hb dL_law_830 (by decide) ?_
  refine lv_iadd hx hb dL_law_831 ?_
  refine lv_topi (fun x_1 ex_1 => ?_)
  have h := h x_1 ex_1
  obtain ⟨n2, h⟩ := h
  refine va_sld hx hb hX hbl hbA hw.2.2.2 n2 dL_law_832 ?_
  refine ck_wcallSi (rest := []) ⟨hx, hb, hml, hown, hts⟩ hw hE (ct_L_cut l hlt G hC h) (vx_cwSW 2 hts gT_L_cut rfl rfl rfl (by decide +kernel) ⟨(Nat.le_of_ble_eq_true rfl), (Nat.le_of_ble_eq_true rfl)⟩) rfl hl.1 rfl (Nat.le_of_ble_eq_true rfl) dL_law_833 ⟨show c0 + 2 ≤ 600128 by omega, show w0 + 12 ≤ 7301064 by omega⟩ (fun x_4 σ3 H locs h hw => ?_)
  refine lv_istore (lv' := [(6, .int x_4), (0, .ref b), (1, .ref (ck_ad G 0 0)), (2, .ref (ck_ad G 10 0)), (3, .ref (ck_ad G 21 0)), (4, .ref (ck_ad G 22 0)), (5, .int x5)]) hx hb dL_law_836 hl (by decide) rfl (fun ls hl => ?_)
  refine lv_aload_n hx hb dL_law_838 rfl (lv_at hl 3 rfl) ?_
  refine lv_aload_n hx hb dL_law_839 rfl (lv_at hl 1 rfl) ?_
  refine lv_iload hx hb dL_law_840 (lv_at hl 6 rfl) ?_
  refine lv_iconst (v := 1) hx hb dL_law_842 (by decide) ?_
  refine lv_iadd hx hb dL_law_843 ?_
  refine lv_topi (fun x_5 ex_5 => ?_)
  have h := h x_5 ex_5
  obtain ⟨n6, h⟩ := h
  refine va_sld hx hb hX hbl hbA hw.2.2.2 n6 dL_law_844 ?_
  refine ck_callVv (rest := []) ⟨hx, hb, hml, hown, hts⟩ hw (hM 10 (by decide) (by decide)) rfl rfl (ct_X7_cut l G hM h) (cwV 1 hts gT_X7_cut rfl rfl rfl (by decide +kernel) ⟨(Nat.le_of_ble_eq_true rfl), (Nat.le_of_ble_eq_true rfl)⟩) rfl hl.1 rfl (Nat.le_of_ble_eq_true rfl) dL_law_845 ⟨show c0 + 2 ≤ 600128 by omega, show w0 + 12 ≤ 7301064 by omega⟩ (fun σ7 H locs h hw => ?_)
  refine lv_aload_n hx hb dL_law_848 rfl (lv_at hl 3 rfl) ?_
  refine ck_callVi (rest := []) ⟨hx, hb, hml, hown, hts⟩ hw (hM 10 (by decide) (by decide)) rfl rfl (ct_X7_thrown l G hM h) (cwV 0 hts gT_X7_thrown rfl rfl rfl (by decide +kernel) ⟨(Nat.le_of_ble_eq_true rfl), (Nat.le_of_ble_eq_true rfl)⟩) rfl hl.1 rfl (Nat.le_of_ble_eq_true rfl) dL_law_849 ⟨show c0 + 2 ≤ 600128 by omega, show w0 + 12 ≤ 7301064 by omega⟩ (fun x_10 σ9 H locs h hw => ?_)
  refine lv_iload hx hb dL_law_852 (lv_at hl 0 rfl) ?_
  obtain ⟨hA, hB⟩ := h
  refine lv_icmp_eq (tgt := 859) hx hb dL_law_854 (by decide) (fun c11 => ?_) (fun c11 => ?_)
  · have h := hA c11
    refine lv_goto (tgt := 1534) hx hb dL_law_859 (by decide) ?_
    refine W.widen (k := c0 + 20) (n := w0 + 200) (show c0 + 2 ≤ c0 + 20 by omega) (show w0 + 12 ≤ w0 + 200 by omega) ?_
    exact hK _ _ _ _ _ h hw (lv_sub hl [1, 2, 3, 4, 5, 6] rfl)
  · have h := hB c11
    refine lv_iconst (v := 0) hx hb dL_law_857 (by decide) ?_
    exact h.elim
set_option maxHeartbeats 4000000 in
set_option maxRecDepth 100000 in
theorem wk_law_862 {p : Program} {l : Launch} {e : Env} {s : State} {m : MethodId} {args : Array Value} {below : List Frame} {meth : Method} {c : Code} {G : ck_G} {b L : Nat} {xs : Nat → Int32} {Q : State → Prop} {c0 w0 : Nat} (C : ck_LX p l s m meth c args b L xs G) (hC : ck_inC G) (hM : ck_inM G) (hO21 : (21, 0) ∈ ck_Ls G) (hO22 : (22, 0) ∈ ck_Ls G) (hc0 : c0 + 20 ≤ 600128) (hw0 : w0 + 200 ≤ 7301064) {K : ck_S → Int32 → Prop} (hK : ∀ (σ : ck_S) (x5 : Int32) (H : Heap) (locs : List Loc) (ls : Array Slot), K σ x5 → ck_H G s H locs σ → lv_has ls 9 [(0, .ref b), (1, .ref (ck_ad G 0 0)), (2, .ref (ck_ad G 10 0)), (3, .ref (ck_ad G 21 0)), (4, .ref (ck_ad G 22 0)), (5, .int x5)] → W p l e room_1 s m args below meth c H locs (c0 + 20) (w0 + 200) Q (F0 m 1534 ls [])) {σ : ck_S} {x5 : Int32} {H : Heap} {locs : List Loc} {ls : Array Slot} (h : sp_law_862 (ck_nc G) (ck_nb G) xs L K σ x5) (hw : ck_H G s H locs σ) (hl : lv_has ls 9 [(0, .ref b), (1, .ref (ck_ad G 0 0)), (2, .ref (ck_ad G 10 0)), (3, .ref (ck_ad G 21 0)), (4, .ref (ck_ad G 22 0)), (5, .int x5)]) : W p l e room_1 s m args below meth c H locs (c0 + 0) (w0 + 0) Q (F0 m 862 ls []) := by
  obtain ⟨hx, hb, hr, hml, hown, hts, hlocks, hlt, hE, hX, hbl, hbA⟩ := id C
  unfold sp_law_862 at h
  refine lv_aload_n hx hb dL_law_862 rfl (lv_at hl 1 rfl) ?_
  refine ck_callVi (rest := []) ⟨hx, hb, hml, hown, hts⟩ hw (hC.1 0 (by decide)) rfl rfl (ct_X6_power l G hC h) (cwV 0 hts gT_X6_power rfl rfl rfl (by decide +kernel) ⟨(Nat.le_of_ble_eq_true rfl), (Nat.le_of_ble_eq_true rfl)⟩) rfl hl.1 rfl (Nat.le_of_ble_eq_true rfl) dL_law_863 ⟨show c0 + 0 ≤ 600128 by omega, show w0 + 0 ≤ 7301064 by omega⟩ (fun x_2 σ1 H locs h hw => ?_)
  refine lv_aload_n hx hb dL_law_866 rfl (lv_at hl 2 rfl) ?_
  refine ck_callVi (rest := [.int x_2]) ⟨hx, hb, hml, hown, hts⟩ hw (hM 10 (by decide) (by decide)) rfl rfl (ct_X7_power l G hM h) (cwV 0 hts gT_X7_power rfl rfl rfl (by decide +kernel) ⟨(Nat.le_of_ble_eq_true rfl), (Nat.le_of_ble_eq_true rfl)⟩) rfl hl.1 rfl (Nat.le_of_ble_eq_true rfl) dL_law_867 ⟨show c0 + 0 ≤ 600128 by omega, show w0 + 0 ≤ 7301064 by omega⟩ (fun x_4 σ3 H locs h hw => ?_)
  obtain ⟨hA, hB⟩ := h
  refine lv_icmp_eq (tgt := 1534) hx hb dL_law_870 (by decide) (fun c5 => ?_) (fun c5 => ?_)
  · have h := hA c5
    refine W.widen (k := c0 + 20) (n := w0 + 200) (show c0 + 0 ≤ c0 + 20 by omega) (show w0 + 0 ≤ w0 + 200 by omega) ?_
    exact hK _ _ _ _ _ h hw (lv_sub hl [0, 1, 2, 3, 4, 5] rfl)
  · have h := hB c5
    refine lv_iconst (v := 0) hx hb dL_law_873 (by decide) ?_
    exact h.elim
set_option maxHeartbeats 4000000 in
set_option maxRecDepth 100000 in
theorem wk_law_875 {p : Program} {l : Launch} {e : Env} {s : State} {m : MethodId} {args : Array Value} {below : List Frame} {meth : Method} {c : Code} {G : ck_G} {b L : Nat} {xs : Nat → Int32} {Q : State → Prop} {c0 w0 : Nat} (C : ck_LX p l s m meth c args b L xs G) (hC : ck_inC G) (hM : ck_inM G) (hO21 : (21, 0) ∈ ck_Ls G) (hO22 : (22, 0) ∈ ck_Ls G) (hc0 : c0 + 20 ≤ 600128) (hw0 : w0 + 200 ≤ 7301064) {K : ck_S → Int32 → Prop} (hK : ∀ (σ : ck_S) (x5 : Int32) (H : Heap) (locs : List Loc) (ls : Array Slot), K σ x5 → ck_H G s H locs σ → lv_has ls 9 [(0, .ref b), (1, .ref (ck_ad G 0 0)), (2, .ref (ck_ad G 10 0)), (3, .ref (ck_ad G 21 0)), (4, .ref (ck_ad G 22 0)), (5, .int x5)] → W p l e room_1 s m args below meth c H locs (c0 + 20) (w0 + 200) Q (F0 m 1534 ls [])) {σ : ck_S} {x5 : Int32} {H : Heap} {locs : List Loc} {ls : Array Slot} (h : sp_law_875 (ck_nc G) (ck_nb G) xs L K σ x5) (hw : ck_H G s H locs σ) (hl : lv_has ls 9 [(0, .ref b), (1, .ref (ck_ad G 0 0)), (2, .ref (ck_ad G 10 0)), (3, .ref (ck_ad G 21 0)), (4, .ref (ck_ad G 22 0)), (5, .int x5)]) : W p l e room_1 s m args below meth c H locs (c0 + 0) (w0 + 0) Q (F0 m 875 ls []) := by
  obtain ⟨hx, hb, hr, hml, hown, hts, hlocks, hlt, hE, hX, hbl, hbA⟩ := id C
  unfold sp_law_875 at h
  refine lv_aload_n hx hb dL_law_875 rfl (lv_at hl 1 rfl) ?_
  refine ck_callVi (rest := []) ⟨hx, hb, hml, hown, hts⟩ hw (hC.1 0 (by decide)) rfl rfl (ct_X6_off l G hC h) (cwV 0 hts gT_X6_off rfl rfl rfl (by decide +kernel) ⟨(Nat.le_of_ble_eq_true rfl), (Nat.le_of_ble_eq_true rfl)⟩) rfl hl.1 rfl (Nat.le_of_ble_eq_true rfl) dL_law_876 ⟨show c0 + 0 ≤ 600128 by omega, show w0 + 0 ≤ 7301064 by omega⟩ (fun x_2 σ1 H locs h hw => ?_)
  refine lv_aload_n hx hb dL_law_879 rfl (lv_at hl 2 rfl) ?_
  refine ck_callVi (rest := [.int x_2]) ⟨hx, hb, hml, hown, hts⟩ hw (hM 10 (by decide) (by decide)) rfl rfl (ct_X7_off l G hM h) (cwV 0 hts gT_X7_off rfl rfl rfl (by decide +kernel) ⟨(Nat.le_of_ble_eq_true rfl), (Nat.le_of_ble_eq_true rfl)⟩) rfl hl.1 rfl (Nat.le_of_ble_eq_true rfl) dL_law_880 ⟨show c0 + 0 ≤ 600128 by omega, show w0 + 0 ≤ 7301064 by omega⟩ (fun x_4 σ3 H locs h hw => ?_)
  obtain ⟨hA, hB⟩ := h
  refine lv_icmp_eq (tgt := 1534) hx hb dL_law_883 (by decide) (fun c5 => ?_) (fun c5 => ?_)
  · have h := hA c5
    refine W.widen (k := c0 + 20) (n := w0 + 200) (show c0 + 0 ≤ c0 + 20 by omega) (show w0 + 0 ≤ w0 + 200 by omega) ?_
    exact hK _ _ _ _ _ h hw (lv_sub hl [0, 1, 2, 3, 4, 5] rfl)
  · have h := hB c5
    refine lv_iconst (v := 0) hx hb dL_law_886 (by decide) ?_
    exact h.elim
set_option maxHeartbeats 4000000 in
set_option maxRecDepth 100000 in
theorem wk_law_929 {p : Program} {l : Launch} {e : Env} {s : State} {m : MethodId} {args : Array Value} {below : List Frame} {meth : Method} {c : Code} {G : ck_G} {b L : Nat} {xs : Nat → Int32} {Q : State → Prop} {c0 w0 : Nat} (C : ck_LX p l s m meth c args b L xs G) (hC : ck_inC G) (hM : ck_inM G) (hO21 : (21, 0) ∈ ck_Ls G) (hO22 : (22, 0) ∈ ck_Ls G) (hc0 : c0 + 20 ≤ 600128) (hw0 : w0 + 200 ≤ 7301064) {K : ck_S → Int32 → Prop} (hK : ∀ (σ : ck_S) (x5 : Int32) (H : Heap) (locs : List Loc) (ls : Array Slot), K σ x5 → ck_H G s H locs σ → lv_has ls 9 [(0, .ref b), (1, .ref (ck_ad G 0 0)), (2, .ref (ck_ad G 10 0)), (3, .ref (ck_ad G 21 0)), (4, .ref (ck_ad G 22 0)), (5, .int x5)] → W p l e room_1 s m args below meth c H locs (c0 + 20) (w0 + 200) Q (F0 m 1534 ls [])) {σ : ck_S} {x5 : Int32} {H : Heap} {locs : List Loc} {ls : Array Slot} (h : sp_law_929 (ck_nc G) (ck_nb G) xs L K σ x5) (hw : ck_H G s H locs σ) (hl : lv_has ls 9 [(0, .ref b), (1, .ref (ck_ad G 0 0)), (2, .ref (ck_ad G 10 0)), (3, .ref (ck_ad G 21 0)), (4, .ref (ck_ad G 22 0)), (5, .int x5)]) : W p l e room_1 s m args below meth c H locs (c0 + 1) (w0 + 6) Q (F0 m 929 ls []) := by
  obtain ⟨hx, hb, hr, hml, hown, hts, hlocks, hlt, hE, hX, hbl, hbA⟩ := id C
  unfold sp_law_929 at h
  refine lv_goto (tgt := 1534) hx hb dL_law_929 (by decide) ?_
  refine W.widen (k := c0 + 20) (n := w0 + 200) (show c0 + 1 ≤ c0 + 20 by omega) (show w0 + 6 ≤ w0 + 200 by omega) ?_
  exact hK _ _ _ _ _ h hw (lv_sub hl [0, 1, 2, 3, 4, 5] rfl)
set_option maxHeartbeats 4000000 in
set_option maxRecDepth 100000 in
theorem wk_law_888 {p : Program} {l : Launch} {e : Env} {s : State} {m : MethodId} {args : Array Value} {below : List Frame} {meth : Method} {c : Code} {G : ck_G} {b L : Nat} {xs : Nat → Int32} {Q : State → Prop} {c0 w0 : Nat} (C : ck_LX p l s m meth c args b L xs G) (hC : ck_inC G) (hM : ck_inM G) (hO21 : (21, 0) ∈ ck_Ls G) (hO22 : (22, 0) ∈ ck_Ls G) (hc0 : c0 + 20 ≤ 600128) (hw0 : w0 + 200 ≤ 7301064) {K : ck_S → Int32 → Prop} (hK : ∀ (σ : ck_S) (x5 : Int32) (H : Heap) (locs : List Loc) (ls : Array Slot), K σ x5 → ck_H G s H locs σ → lv_has ls 9 [(0, .ref b), (1, .ref (ck_ad G 0 0)), (2, .ref (ck_ad G 10 0)), (3, .ref (ck_ad G 21 0)), (4, .ref (ck_ad G 22 0)), (5, .int x5)] → W p l e room_1 s m args below meth c H locs (c0 + 20) (w0 + 200) Q (F0 m 1534 ls [])) {σ : ck_S} {x5 : Int32} {H : Heap} {locs : List Loc} {ls : Array Slot} (h : sp_law_888 (ck_nc G) (ck_nb G) xs L K σ x5) (hw : ck_H G s H locs σ) (hl : lv_has ls 9 [(0, .ref b), (1, .ref (ck_ad G 0 0)), (2, .ref (ck_ad G 10 0)), (3, .ref (ck_ad G 21 0)), (4, .ref (ck_ad G 22 0)), (5, .int x5)]) : W p l e room_1 s m args below meth c H locs (c0 + 0) (w0 + 0) Q (F0 m 888 ls []) := by
  obtain ⟨hx, hb, hr, hml, hown, hts, hlocks, hlt, hE, hX, hbl, hbA⟩ := id C
  unfold sp_law_888 at h
  refine lv_aload_n hx hb dL_law_888 rfl (lv_at hl 1 rfl) ?_
  refine lv_aload_n hx hb dL_law_889 rfl (lv_at hl 3 rfl) ?_
  refine ck_wcallSi (rest := []) ⟨hx, hb, hml, hown, hts⟩ hw hE (ct_L_time l hlt G hO21 hC h) (vx_cwSW 2 hts gT_L_time rfl rfl rfl (by decide +kernel) ⟨(Nat.le_of_ble_eq_true rfl), (Nat.le_of_ble_eq_true rfl)⟩) rfl hl.1 rfl (Nat.le_of_ble_eq_true rfl) dL_law_890 ⟨show c0 + 1 ≤ 600128 by omega, show w0 + 6 ≤ 7301064 by omega⟩ (fun x_2 σ1 H locs h hw => ?_)
  refine lv_istore (lv' := [(6, .int x_2), (0, .ref b), (1, .ref (ck_ad G 0 0)), (2, .ref (ck_ad G 10 0)), (3, .ref (ck_ad G 21 0)), (4, .ref (ck_ad G 22 0)), (5, .int x5)]) hx hb dL_law_893 hl (by decide) rfl (fun ls hl => ?_)
  refine lv_aload_n hx hb dL_law_895 rfl (lv_at hl 3 rfl) ?_
  refine ck_callVi (rest := []) ⟨hx, hb, hml, hown, hts⟩ hw (hM 10 (by decide) (by decide)) rfl rfl (ct_X7_time l G hM h) (cwV 0 hts gT_X7_time rfl rfl rfl (by decide +kernel) ⟨(Nat.le_of_ble_eq_true rfl), (Nat.le_of_ble_eq_true rfl)⟩) rfl hl.1 rfl (Nat.le_of_ble_eq_true rfl) dL_law_896 ⟨show c0 + 1 ≤ 600128 by omega, show w0 + 6 ≤ 7301064 by omega⟩ (fun x_4 σ3 H locs h hw => ?_)
  refine lv_istore (lv' := [(7, .int x_4), (6, .int x_2), (0, .ref b), (1, .ref (ck_ad G 0 0)), (2, .ref (ck_ad G 10 0)), (3, .ref (ck_ad G 21 0)), (4, .ref (ck_ad G 22 0)), (5, .int x5)]) hx hb dL_law_899 hl (by decide) rfl (fun ls hl => ?_)
  refine lv_aload_n hx hb dL_law_901 rfl (lv_at hl 4 rfl) ?_
  refine ck_callVi (rest := []) ⟨hx, hb, hml, hown, hts⟩ hw (hM 10 (by decide) (by decide)) rfl rfl (ct_X7_thrown l G hM h) (cwV 0 hts gT_X7_thrown rfl rfl rfl (by decide +kernel) ⟨(Nat.le_of_ble_eq_true rfl), (Nat.le_of_ble_eq_true rfl)⟩) rfl hl.1 rfl (Nat.le_of_ble_eq_true rfl) dL_law_902 ⟨show c0 + 1 ≤ 600128 by omega, show w0 + 6 ≤ 7301064 by omega⟩ (fun x_6 σ5 H locs h hw => ?_)
  refine lv_iload hx hb dL_law_905 (lv_at hl 1 rfl) ?_
  obtain ⟨hA, hB⟩ := h
  refine lv_icmp_eq (tgt := 912) hx hb dL_law_907 (by decide) (fun c7 => ?_) (fun c7 => ?_)
  · have h := hA c7
    refine lv_iload hx hb dL_law_912 (lv_at hl 1 rfl) ?_
    obtain ⟨hA, hB⟩ := h
    refine lv_if_ne (tgt := 929) hx hb dL_law_914 (by decide) (fun c8 => ?_) (fun c8 => ?_)
    · have h := hA c8
      exact wk_law_929 C hC hM hO21 hO22 hc0 hw0 hK h hw (lv_sub hl [2, 3, 4, 5, 6, 7] rfl)
    · have h := hB c8
      refine lv_aload_n hx hb dL_law_917 rfl (lv_at hl 5 rfl) ?_
      refine lv_iconst (v := 0) hx hb dL_law_918 (by decide) ?_
      obtain ⟨n9, h⟩ := h
      refine ck_lald hx hb hw hO21 rfl n9 dL_law_919 ?_
      refine lv_iload hx hb dL_law_920 (lv_at hl 0 rfl) ?_
      refine lv_i2l hx hb dL_law_922 rfl ?_
      refine W.lcmp hx hb dL_law_923 ?_
      obtain ⟨hA, hB⟩ := h
      refine lv_if_eq (tgt := 929) hx hb dL_law_924 (by decide) (fun c10 => ?_) (fun c10 => ?_)
      · have h := hA c10
        exact wk_law_929 C hC hM hO21 hO22 hc0 hw0 hK h hw (lv_sub hl [2, 3, 4, 5, 6, 7] rfl)
      · have h := hB c10
        refine lv_iconst (v := 0) hx hb dL_law_927 (by decide) ?_
        exact h.elim
  · have h := hB c7
    refine lv_iconst (v := 0) hx hb dL_law_910 (by decide) ?_
    exact h.elim
set_option maxHeartbeats 4000000 in
set_option maxRecDepth 100000 in
theorem wk_law_994 {p : Program} {l : Launch} {e : Env} {s : State} {m : MethodId} {args : Array Value} {below : List Frame} {meth : Method} {c : Code} {G : ck_G} {b L : Nat} {xs : Nat → Int32} {Q : State → Prop} {c0 w0 : Nat} (C : ck_LX p l s m meth c args b L xs G) (hC : ck_inC G) (hM : ck_inM G) (hO21 : (21, 0) ∈ ck_Ls G) (hO22 : (22, 0) ∈ ck_Ls G) (hc0 : c0 + 20 ≤ 600128) (hw0 : w0 + 200 ≤ 7301064) {K : ck_S → Int32 → Prop} (hK : ∀ (σ : ck_S) (x5 : Int32) (H : Heap) (locs : List Loc) (ls : Array Slot), K σ x5 → ck_H G s H locs σ → lv_has ls 9 [(0, .ref b), (1, .ref (ck_ad G 0 0)), (2, .ref (ck_ad G 10 0)), (3, .ref (ck_ad G 21 0)), (4, .ref (ck_ad G 22 0)), (5, .int x5)] → W p l e room_1 s m args below meth c H locs (c0 + 20) (w0 + 200) Q (F0 m 1534 ls [])) {σ : ck_S} {x5 : Int32} {H : Heap} {locs : List Loc} {ls : Array Slot} (h : sp_law_994 (ck_nc G) (ck_nb G) xs L K σ x5) (hw : ck_H G s H locs σ) (hl : lv_has ls 9 [(0, .ref b), (1, .ref (ck_ad G 0 0)), (2, .ref (ck_ad G 10 0)), (3, .ref (ck_ad G 21 0)), (4, .ref (ck_ad G 22 0)), (5, .int x5)]) : W p l e room_1 s m args below meth c H locs (c0 + 1) (w0 + 6) Q (F0 m 994 ls []) := by
  obtain ⟨hx, hb, hr, hml, hown, hts, hlocks, hlt, hE, hX, hbl, hbA⟩ := id C
  unfold sp_law_994 at h
  refine lv_goto (tgt := 1534) hx hb dL_law_994 (by decide) ?_
  refine W.widen (k := c0 + 20) (n := w0 + 200) (show c0 + 1 ≤ c0 + 20 by omega) (show w0 + 6 ≤ w0 + 200 by omega) ?_
  exact hK _ _ _ _ _ h hw (lv_sub hl [0, 1, 2, 3, 4, 5] rfl)
set_option maxHeartbeats 4000000 in
set_option maxRecDepth 100000 in
theorem wk_law_932 {p : Program} {l : Launch} {e : Env} {s : State} {m : MethodId} {args : Array Value} {below : List Frame} {meth : Method} {c : Code} {G : ck_G} {b L : Nat} {xs : Nat → Int32} {Q : State → Prop} {c0 w0 : Nat} (C : ck_LX p l s m meth c args b L xs G) (hC : ck_inC G) (hM : ck_inM G) (hO21 : (21, 0) ∈ ck_Ls G) (hO22 : (22, 0) ∈ ck_Ls G) (hc0 : c0 + 20 ≤ 600128) (hw0 : w0 + 200 ≤ 7301064) {K : ck_S → Int32 → Prop} (hK : ∀ (σ : ck_S) (x5 : Int32) (H : Heap) (locs : List Loc) (ls : Array Slot), K σ x5 → ck_H G s H locs σ → lv_has ls 9 [(0, .ref b), (1, .ref (ck_ad G 0 0)), (2, .ref (ck_ad G 10 0)), (3, .ref (ck_ad G 21 0)), (4, .ref (ck_ad G 22 0)), (5, .int x5)] → W p l e room_1 s m args below meth c H locs (c0 + 20) (w0 + 200) Q (F0 m 1534 ls [])) {σ : ck_S} {x5 : Int32} {H : Heap} {locs : List Loc} {ls : Array Slot} (h : sp_law_932 (ck_nc G) (ck_nb G) xs L K σ x5) (hw : ck_H G s H locs σ) (hl : lv_has ls 9 [(0, .ref b), (1, .ref (ck_ad G 0 0)), (2, .ref (ck_ad G 10 0)), (3, .ref (ck_ad G 21 0)), (4, .ref (ck_ad G 22 0)), (5, .int x5)]) : W p l e room_1 s m args below meth c H locs (c0 + 0) (w0 + 0) Q (F0 m 932 ls []) := by
  obtain ⟨hx, hb, hr, hml, hown, hts, hlocks, hlt, hE, hX, hbl, hbA⟩ := id C
  unfold sp_law_932 at h
  refine lv_aload_n hx hb dL_law_932 rfl (lv_at hl 1 rfl) ?_
  refine lv_aload hx hb dL_law_933 (lv_at hl 4 rfl) ?_
  refine ck_wcallSi (rest := []) ⟨hx, hb, hml, hown, hts⟩ hw hE (ct_L_charge l hlt G hO22 hC h) (vx_cwSW 2 hts gT_L_charge rfl rfl rfl (by decide +kernel) ⟨(Nat.le_of_ble_eq_true rfl), (Nat.le_of_ble_eq_true rfl)⟩) rfl hl.1 rfl (Nat.le_of_ble_eq_true rfl) dL_law_935 ⟨show c0 + 1 ≤ 600128 by omega, show w0 + 6 ≤ 7301064 by omega⟩ (fun x_2 σ1 H locs h hw => ?_)
  refine lv_istore (lv' := [(6, .int x_2), (0, .ref b), (1, .ref (ck_ad G 0 0)), (2, .ref (ck_ad G 10 0)), (3, .ref (ck_ad G 21 0)), (4, .ref (ck_ad G 22 0)), (5, .int x5)]) hx hb dL_law_938 hl (by decide) rfl (fun ls hl => ?_)
  refine lv_aload_n hx hb dL_law_940 rfl (lv_at hl 3 rfl) ?_
  refine ck_callVd (rest := []) ⟨hx, hb, hml, hown, hts⟩ hw (hM 10 (by decide) (by decide)) rfl rfl (ct_X7_charge l G hM h) (cwV 0 hts gT_X7_charge rfl rfl rfl (by decide +kernel) ⟨(Nat.le_of_ble_eq_true rfl), (Nat.le_of_ble_eq_true rfl)⟩) rfl hl.1 rfl (Nat.le_of_ble_eq_true rfl) dL_law_941 ⟨show c0 + 1 ≤ 600128 by omega, show w0 + 6 ≤ 7301064 by omega⟩ (fun z_4 σ3 H locs h hw => ?_)
  refine lv_dstore (lv' := [(7, .double z_4), (6, .int x_2), (0, .ref b), (1, .ref (ck_ad G 0 0)), (2, .ref (ck_ad G 10 0)), (3, .ref (ck_ad G 21 0)), (4, .ref (ck_ad G 22 0)), (5, .int x5)]) hx hb dL_law_944 hl (by decide) rfl (fun ls hl => ?_)
  refine lv_aload_n hx hb dL_law_946 rfl (lv_at hl 4 rfl) ?_
  refine ck_callVi (rest := []) ⟨hx, hb, hml, hown, hts⟩ hw (hM 10 (by decide) (by decide)) rfl rfl (ct_X7_thrown l G hM h) (cwV 0 hts gT_X7_thrown rfl rfl rfl (by decide +kernel) ⟨(Nat.le_of_ble_eq_true rfl), (Nat.le_of_ble_eq_true rfl)⟩) rfl hl.1 rfl (Nat.le_of_ble_eq_true rfl) dL_law_947 ⟨show c0 + 1 ≤ 600128 by omega, show w0 + 6 ≤ 7301064 by omega⟩ (fun x_6 σ5 H locs h hw => ?_)
  refine lv_iload hx hb dL_law_950 (lv_at hl 1 rfl) ?_
  obtain ⟨hA, hB⟩ := h
  refine lv_icmp_eq (tgt := 957) hx hb dL_law_952 (by decide) (fun c7 => ?_) (fun c7 => ?_)
  · have h := hA c7
    refine lv_iload hx hb dL_law_957 (lv_at hl 1 rfl) ?_
    obtain ⟨hA, hB⟩ := h
    refine lv_if_ne (tgt := 994) hx hb dL_law_959 (by decide) (fun c8 => ?_) (fun c8 => ?_)
    · have h := hA c8
      exact wk_law_994 C hC hM hO21 hO22 hc0 hw0 hK h hw (lv_sub hl [2, 3, 4, 5, 6, 7] rfl)
    · have h := hB c8
      refine lv_aload hx hb dL_law_962 (lv_at hl 6 rfl) ?_
      refine lv_iconst (v := 0) hx hb dL_law_964 (by decide) ?_
      obtain ⟨n9, h⟩ := h
      refine ck_dald hx hb hw hO22 rfl n9 dL_law_965 ?_
      refine lv_dload hx hb dL_law_966 (lv_at hl 0 rfl) ?_
      refine lv_dcmp hx hb dL_law_968 ?_
      obtain ⟨hA, hB⟩ := h
      refine lv_if_eq (tgt := 994) hx hb dL_law_969 (by decide) (fun c10 => ?_) (fun c10 => ?_)
      · have h := hA c10
        exact wk_law_994 C hC hM hO21 hO22 hc0 hw0 hK h hw (lv_sub hl [2, 3, 4, 5, 6, 7] rfl)
      · have h := hB c10
        refine lv_aload hx hb dL_law_972 (lv_at hl 6 rfl) ?_
        refine lv_iconst (v := 0) hx hb dL_law_974 (by decide) ?_
        obtain ⟨n11, h⟩ := h
        refine ck_dald hx hb hw hO22 rfl n11 dL_law_975 ?_
        refine lv_aload hx hb dL_law_976 (lv_at hl 6 rfl) ?_
        refine lv_iconst (v := 0) hx hb dL_law_978 (by decide) ?_
        obtain ⟨n12, h⟩ := h
        refine ck_dald hx hb hw hO22 rfl n12 dL_law_979 ?_
        refine lv_dcmp hx hb dL_law_980 ?_
        obtain ⟨hA, hB⟩ := h
        refine lv_if_eq (tgt := 992) hx hb dL_law_981 (by decide) (fun c13 => ?_) (fun c13 => ?_)
        · have h := hA c13
          refine lv_iconst (v := 0) hx hb dL_law_992 (by decide) ?_
          exact h.elim
        · have h := hB c13
          refine lv_dload hx hb dL_law_984 (lv_at hl 0 rfl) ?_
          refine lv_dload hx hb dL_law_986 (lv_at hl 0 rfl) ?_
          refine lv_dcmp hx hb dL_law_988 ?_
          obtain ⟨hA, hB⟩ := h
          refine lv_if_ne (tgt := 994) hx hb dL_law_989 (by decide) (fun c14 => ?_) (fun c14 => ?_)
          · have h := hA c14
            exact wk_law_994 C hC hM hO21 hO22 hc0 hw0 hK h hw (lv_sub hl [2, 3, 4, 5, 6, 7] rfl)
          · have h := hB c14
            refine lv_iconst (v := 0) hx hb dL_law_992 (by decide) ?_
            exact h.elim
  · have h := hB c7
    refine lv_iconst (v := 0) hx hb dL_law_955 (by decide) ?_
    exact h.elim
set_option maxHeartbeats 4000000 in
set_option maxRecDepth 100000 in
theorem wk_law_1038 {p : Program} {l : Launch} {e : Env} {s : State} {m : MethodId} {args : Array Value} {below : List Frame} {meth : Method} {c : Code} {G : ck_G} {b L : Nat} {xs : Nat → Int32} {Q : State → Prop} {c0 w0 : Nat} (C : ck_LX p l s m meth c args b L xs G) (hC : ck_inC G) (hM : ck_inM G) (hO21 : (21, 0) ∈ ck_Ls G) (hO22 : (22, 0) ∈ ck_Ls G) (hc0 : c0 + 20 ≤ 600128) (hw0 : w0 + 200 ≤ 7301064) {K : ck_S → Int32 → Prop} (hK : ∀ (σ : ck_S) (x5 : Int32) (H : Heap) (locs : List Loc) (ls : Array Slot), K σ x5 → ck_H G s H locs σ → lv_has ls 9 [(0, .ref b), (1, .ref (ck_ad G 0 0)), (2, .ref (ck_ad G 10 0)), (3, .ref (ck_ad G 21 0)), (4, .ref (ck_ad G 22 0)), (5, .int x5)] → W p l e room_1 s m args below meth c H locs (c0 + 20) (w0 + 200) Q (F0 m 1534 ls [])) {σ : ck_S} {x5 : Int32} {H : Heap} {locs : List Loc} {ls : Array Slot} (h : sp_law_1038 (ck_nc G) (ck_nb G) xs L K σ x5) (hw : ck_H G s H locs σ) (hl : lv_has ls 9 [(0, .ref b), (1, .ref (ck_ad G 0 0)), (2, .ref (ck_ad G 10 0)), (3, .ref (ck_ad G 21 0)), (4, .ref (ck_ad G 22 0)), (5, .int x5)]) : W p l e room_1 s m args below meth c H locs (c0 + 1) (w0 + 6) Q (F0 m 1038 ls []) := by
  obtain ⟨hx, hb, hr, hml, hown, hts, hlocks, hlt, hE, hX, hbl, hbA⟩ := id C
  unfold sp_law_1038 at h
  refine lv_goto (tgt := 1534) hx hb dL_law_1038 (by decide) ?_
  refine W.widen (k := c0 + 20) (n := w0 + 200) (show c0 + 1 ≤ c0 + 20 by omega) (show w0 + 6 ≤ w0 + 200 by omega) ?_
  exact hK _ _ _ _ _ h hw (lv_sub hl [0, 1, 2, 3, 4, 5] rfl)
set_option maxHeartbeats 4000000 in
set_option maxRecDepth 100000 in
theorem wk_law_997 {p : Program} {l : Launch} {e : Env} {s : State} {m : MethodId} {args : Array Value} {below : List Frame} {meth : Method} {c : Code} {G : ck_G} {b L : Nat} {xs : Nat → Int32} {Q : State → Prop} {c0 w0 : Nat} (C : ck_LX p l s m meth c args b L xs G) (hC : ck_inC G) (hM : ck_inM G) (hO21 : (21, 0) ∈ ck_Ls G) (hO22 : (22, 0) ∈ ck_Ls G) (hc0 : c0 + 20 ≤ 600128) (hw0 : w0 + 200 ≤ 7301064) {K : ck_S → Int32 → Prop} (hK : ∀ (σ : ck_S) (x5 : Int32) (H : Heap) (locs : List Loc) (ls : Array Slot), K σ x5 → ck_H G s H locs σ → lv_has ls 9 [(0, .ref b), (1, .ref (ck_ad G 0 0)), (2, .ref (ck_ad G 10 0)), (3, .ref (ck_ad G 21 0)), (4, .ref (ck_ad G 22 0)), (5, .int x5)] → W p l e room_1 s m args below meth c H locs (c0 + 20) (w0 + 200) Q (F0 m 1534 ls [])) {σ : ck_S} {x5 : Int32} {H : Heap} {locs : List Loc} {ls : Array Slot} (h : sp_law_997 (ck_nc G) (ck_nb G) xs L K σ x5) (hw : ck_H G s H locs σ) (hl : lv_has ls 9 [(0, .ref b), (1, .ref (ck_ad G 0 0)), (2, .ref (ck_ad G 10 0)), (3, .ref (ck_ad G 21 0)), (4, .ref (ck_ad G 22 0)), (5, .int x5)]) : W p l e room_1 s m args below meth c H locs (c0 + 0) (w0 + 0) Q (F0 m 997 ls []) := by
  obtain ⟨hx, hb, hr, hml, hown, hts, hlocks, hlt, hE, hX, hbl, hbA⟩ := id C
  unfold sp_law_997 at h
  refine lv_aload_n hx hb dL_law_997 rfl (lv_at hl 1 rfl) ?_
  refine lv_aload_n hx hb dL_law_998 rfl (lv_at hl 3 rfl) ?_
  refine ck_wcallSi (rest := []) ⟨hx, hb, hml, hown, hts⟩ hw hE (ct_L_percent l hlt G hO21 hC h) (vx_cwSW 2 hts gT_L_percent rfl rfl rfl (by decide +kernel) ⟨(Nat.le_of_ble_eq_true rfl), (Nat.le_of_ble_eq_true rfl)⟩) rfl hl.1 rfl (Nat.le_of_ble_eq_true rfl) dL_law_999 ⟨show c0 + 1 ≤ 600128 by omega, show w0 + 6 ≤ 7301064 by omega⟩ (fun x_2 σ1 H locs h hw => ?_)
  refine lv_istore (lv' := [(6, .int x_2), (0, .ref b), (1, .ref (ck_ad G 0 0)), (2, .ref (ck_ad G 10 0)), (3, .ref (ck_ad G 21 0)), (4, .ref (ck_ad G 22 0)), (5, .int x5)]) hx hb dL_law_1002 hl (by decide) rfl (fun ls hl => ?_)
  refine lv_aload_n hx hb dL_law_1004 rfl (lv_at hl 3 rfl) ?_
  refine ck_callVi (rest := []) ⟨hx, hb, hml, hown, hts⟩ hw (hM 10 (by decide) (by decide)) rfl rfl (ct_X7_percent l G hM h) (cwV 0 hts gT_X7_percent rfl rfl rfl (by decide +kernel) ⟨(Nat.le_of_ble_eq_true rfl), (Nat.le_of_ble_eq_true rfl)⟩) rfl hl.1 rfl (Nat.le_of_ble_eq_true rfl) dL_law_1005 ⟨show c0 + 1 ≤ 600128 by omega, show w0 + 6 ≤ 7301064 by omega⟩ (fun x_4 σ3 H locs h hw => ?_)
  refine lv_istore (lv' := [(7, .int x_4), (6, .int x_2), (0, .ref b), (1, .ref (ck_ad G 0 0)), (2, .ref (ck_ad G 10 0)), (3, .ref (ck_ad G 21 0)), (4, .ref (ck_ad G 22 0)), (5, .int x5)]) hx hb dL_law_1008 hl (by decide) rfl (fun ls hl => ?_)
  refine lv_aload_n hx hb dL_law_1010 rfl (lv_at hl 4 rfl) ?_
  refine ck_callVi (rest := []) ⟨hx, hb, hml, hown, hts⟩ hw (hM 10 (by decide) (by decide)) rfl rfl (ct_X7_thrown l G hM h) (cwV 0 hts gT_X7_thrown rfl rfl rfl (by decide +kernel) ⟨(Nat.le_of_ble_eq_true rfl), (Nat.le_of_ble_eq_true rfl)⟩) rfl hl.1 rfl (Nat.le_of_ble_eq_true rfl) dL_law_1011 ⟨show c0 + 1 ≤ 600128 by omega, show w0 + 6 ≤ 7301064 by omega⟩ (fun x_6 σ5 H locs h hw => ?_)
  refine lv_iload hx hb dL_law_1014 (lv_at hl 1 rfl) ?_
  obtain ⟨hA, hB⟩ := h
  refine lv_icmp_eq (tgt := 1021) hx hb dL_law_1016 (by decide) (fun c7 => ?_) (fun c7 => ?_)
  · have h := hA c7
    refine lv_iload hx hb dL_law_1021 (lv_at hl 1 rfl) ?_
    obtain ⟨hA, hB⟩ := h
    refine lv_if_ne (tgt := 1038) hx hb dL_law_1023 (by decide) (fun c8 => ?_) (fun c8 => ?_)
    · have h := hA c8
      exact wk_law_1038 C hC hM hO21 hO22 hc0 hw0 hK h hw (lv_sub hl [2, 3, 4, 5, 6, 7] rfl)
    · have h := hB c8
      refine lv_aload_n hx hb dL_law_1026 rfl (lv_at hl 5 rfl) ?_
      refine lv_iconst (v := 0) hx hb dL_law_1027 (by decide) ?_
      obtain ⟨n9, h⟩ := h
      refine ck_lald hx hb hw hO21 rfl n9 dL_law_1028 ?_
      refine lv_iload hx hb dL_law_1029 (lv_at hl 0 rfl) ?_
      refine lv_i2l hx hb dL_law_1031 rfl ?_
      refine W.lcmp hx hb dL_law_1032 ?_
      obtain ⟨hA, hB⟩ := h
      refine lv_if_eq (tgt := 1038) hx hb dL_law_1033 (by decide) (fun c10 => ?_) (fun c10 => ?_)
      · have h := hA c10
        exact wk_law_1038 C hC hM hO21 hO22 hc0 hw0 hK h hw (lv_sub hl [2, 3, 4, 5, 6, 7] rfl)
      · have h := hB c10
        refine lv_iconst (v := 0) hx hb dL_law_1036 (by decide) ?_
        exact h.elim
  · have h := hB c7
    refine lv_iconst (v := 0) hx hb dL_law_1019 (by decide) ?_
    exact h.elim
set_option maxHeartbeats 4000000 in
set_option maxRecDepth 100000 in
theorem wk_law_1103 {p : Program} {l : Launch} {e : Env} {s : State} {m : MethodId} {args : Array Value} {below : List Frame} {meth : Method} {c : Code} {G : ck_G} {b L : Nat} {xs : Nat → Int32} {Q : State → Prop} {c0 w0 : Nat} (C : ck_LX p l s m meth c args b L xs G) (hC : ck_inC G) (hM : ck_inM G) (hO21 : (21, 0) ∈ ck_Ls G) (hO22 : (22, 0) ∈ ck_Ls G) (hc0 : c0 + 20 ≤ 600128) (hw0 : w0 + 200 ≤ 7301064) {K : ck_S → Int32 → Prop} (hK : ∀ (σ : ck_S) (x5 : Int32) (H : Heap) (locs : List Loc) (ls : Array Slot), K σ x5 → ck_H G s H locs σ → lv_has ls 9 [(0, .ref b), (1, .ref (ck_ad G 0 0)), (2, .ref (ck_ad G 10 0)), (3, .ref (ck_ad G 21 0)), (4, .ref (ck_ad G 22 0)), (5, .int x5)] → W p l e room_1 s m args below meth c H locs (c0 + 20) (w0 + 200) Q (F0 m 1534 ls [])) {σ : ck_S} {x5 : Int32} {H : Heap} {locs : List Loc} {ls : Array Slot} (h : sp_law_1103 (ck_nc G) (ck_nb G) xs L K σ x5) (hw : ck_H G s H locs σ) (hl : lv_has ls 9 [(0, .ref b), (1, .ref (ck_ad G 0 0)), (2, .ref (ck_ad G 10 0)), (3, .ref (ck_ad G 21 0)), (4, .ref (ck_ad G 22 0)), (5, .int x5)]) : W p l e room_1 s m args below meth c H locs (c0 + 1) (w0 + 6) Q (F0 m 1103 ls []) := by
  obtain ⟨hx, hb, hr, hml, hown, hts, hlocks, hlt, hE, hX, hbl, hbA⟩ := id C
  unfold sp_law_1103 at h
  refine lv_goto (tgt := 1534) hx hb dL_law_1103 (by decide) ?_
  refine W.widen (k := c0 + 20) (n := w0 + 200) (show c0 + 1 ≤ c0 + 20 by omega) (show w0 + 6 ≤ w0 + 200 by omega) ?_
  exact hK _ _ _ _ _ h hw (lv_sub hl [0, 1, 2, 3, 4, 5] rfl)
set_option maxHeartbeats 4000000 in
set_option maxRecDepth 100000 in
theorem wk_law_1041 {p : Program} {l : Launch} {e : Env} {s : State} {m : MethodId} {args : Array Value} {below : List Frame} {meth : Method} {c : Code} {G : ck_G} {b L : Nat} {xs : Nat → Int32} {Q : State → Prop} {c0 w0 : Nat} (C : ck_LX p l s m meth c args b L xs G) (hC : ck_inC G) (hM : ck_inM G) (hO21 : (21, 0) ∈ ck_Ls G) (hO22 : (22, 0) ∈ ck_Ls G) (hc0 : c0 + 20 ≤ 600128) (hw0 : w0 + 200 ≤ 7301064) {K : ck_S → Int32 → Prop} (hK : ∀ (σ : ck_S) (x5 : Int32) (H : Heap) (locs : List Loc) (ls : Array Slot), K σ x5 → ck_H G s H locs σ → lv_has ls 9 [(0, .ref b), (1, .ref (ck_ad G 0 0)), (2, .ref (ck_ad G 10 0)), (3, .ref (ck_ad G 21 0)), (4, .ref (ck_ad G 22 0)), (5, .int x5)] → W p l e room_1 s m args below meth c H locs (c0 + 20) (w0 + 200) Q (F0 m 1534 ls [])) {σ : ck_S} {x5 : Int32} {H : Heap} {locs : List Loc} {ls : Array Slot} (h : sp_law_1041 (ck_nc G) (ck_nb G) xs L K σ x5) (hw : ck_H G s H locs σ) (hl : lv_has ls 9 [(0, .ref b), (1, .ref (ck_ad G 0 0)), (2, .ref (ck_ad G 10 0)), (3, .ref (ck_ad G 21 0)), (4, .ref (ck_ad G 22 0)), (5, .int x5)]) : W p l e room_1 s m args below meth c H locs (c0 + 0) (w0 + 0) Q (F0 m 1041 ls []) := by
  obtain ⟨hx, hb, hr, hml, hown, hts, hlocks, hlt, hE, hX, hbl, hbA⟩ := id C
  unfold sp_law_1041 at h
  refine lv_aload_n hx hb dL_law_1041 rfl (lv_at hl 1 rfl) ?_
  refine lv_aload hx hb dL_law_1042 (lv_at hl 4 rfl) ?_
  refine ck_wcallSi (rest := []) ⟨hx, hb, hml, hown, hts⟩ hw hE (ct_L_through l hlt G hO22 hC h) (vx_cwSW 2 hts gT_L_through rfl rfl rfl (by decide +kernel) ⟨(Nat.le_of_ble_eq_true rfl), (Nat.le_of_ble_eq_true rfl)⟩) rfl hl.1 rfl (Nat.le_of_ble_eq_true rfl) dL_law_1044 ⟨show c0 + 1 ≤ 600128 by omega, show w0 + 6 ≤ 7301064 by omega⟩ (fun x_2 σ1 H locs h hw => ?_)
  refine lv_istore (lv' := [(6, .int x_2), (0, .ref b), (1, .ref (ck_ad G 0 0)), (2, .ref (ck_ad G 10 0)), (3, .ref (ck_ad G 21 0)), (4, .ref (ck_ad G 22 0)), (5, .int x5)]) hx hb dL_law_1047 hl (by decide) rfl (fun ls hl => ?_)
  refine lv_aload_n hx hb dL_law_1049 rfl (lv_at hl 3 rfl) ?_
  refine ck_callVd (rest := []) ⟨hx, hb, hml, hown, hts⟩ hw (hM 10 (by decide) (by decide)) rfl rfl (ct_X7_through l G hM h) (cwV 0 hts gT_X7_through rfl rfl rfl (by decide +kernel) ⟨(Nat.le_of_ble_eq_true rfl), (Nat.le_of_ble_eq_true rfl)⟩) rfl hl.1 rfl (Nat.le_of_ble_eq_true rfl) dL_law_1050 ⟨show c0 + 1 ≤ 600128 by omega, show w0 + 6 ≤ 7301064 by omega⟩ (fun z_4 σ3 H locs h hw => ?_)
  refine lv_dstore (lv' := [(7, .double z_4), (6, .int x_2), (0, .ref b), (1, .ref (ck_ad G 0 0)), (2, .ref (ck_ad G 10 0)), (3, .ref (ck_ad G 21 0)), (4, .ref (ck_ad G 22 0)), (5, .int x5)]) hx hb dL_law_1053 hl (by decide) rfl (fun ls hl => ?_)
  refine lv_aload_n hx hb dL_law_1055 rfl (lv_at hl 4 rfl) ?_
  refine ck_callVi (rest := []) ⟨hx, hb, hml, hown, hts⟩ hw (hM 10 (by decide) (by decide)) rfl rfl (ct_X7_thrown l G hM h) (cwV 0 hts gT_X7_thrown rfl rfl rfl (by decide +kernel) ⟨(Nat.le_of_ble_eq_true rfl), (Nat.le_of_ble_eq_true rfl)⟩) rfl hl.1 rfl (Nat.le_of_ble_eq_true rfl) dL_law_1056 ⟨show c0 + 1 ≤ 600128 by omega, show w0 + 6 ≤ 7301064 by omega⟩ (fun x_6 σ5 H locs h hw => ?_)
  refine lv_iload hx hb dL_law_1059 (lv_at hl 1 rfl) ?_
  obtain ⟨hA, hB⟩ := h
  refine lv_icmp_eq (tgt := 1066) hx hb dL_law_1061 (by decide) (fun c7 => ?_) (fun c7 => ?_)
  · have h := hA c7
    refine lv_iload hx hb dL_law_1066 (lv_at hl 1 rfl) ?_
    obtain ⟨hA, hB⟩ := h
    refine lv_if_ne (tgt := 1103) hx hb dL_law_1068 (by decide) (fun c8 => ?_) (fun c8 => ?_)
    · have h := hA c8
      exact wk_law_1103 C hC hM hO21 hO22 hc0 hw0 hK h hw (lv_sub hl [2, 3, 4, 5, 6, 7] rfl)
    · have h := hB c8
      refine lv_aload hx hb dL_law_1071 (lv_at hl 6 rfl) ?_
      refine lv_iconst (v := 0) hx hb dL_law_1073 (by decide) ?_
      obtain ⟨n9, h⟩ := h
      refine ck_dald hx hb hw hO22 rfl n9 dL_law_1074 ?_
      refine lv_dload hx hb dL_law_1075 (lv_at hl 0 rfl) ?_
      refine lv_dcmp hx hb dL_law_1077 ?_
      obtain ⟨hA, hB⟩ := h
      refine lv_if_eq (tgt := 1103) hx hb dL_law_1078 (by decide) (fun c10 => ?_) (fun c10 => ?_)
      · have h := hA c10
        exact wk_law_1103 C hC hM hO21 hO22 hc0 hw0 hK h hw (lv_sub hl [2, 3, 4, 5, 6, 7] rfl)
      · have h := hB c10
        refine lv_aload hx hb dL_law_1081 (lv_at hl 6 rfl) ?_
        refine lv_iconst (v := 0) hx hb dL_law_1083 (by decide) ?_
        obtain ⟨n11, h⟩ := h
        refine ck_dald hx hb hw hO22 rfl n11 dL_law_1084 ?_
        refine lv_aload hx hb dL_law_1085 (lv_at hl 6 rfl) ?_
        refine lv_iconst (v := 0) hx hb dL_law_1087 (by decide) ?_
        obtain ⟨n12, h⟩ := h
        refine ck_dald hx hb hw hO22 rfl n12 dL_law_1088 ?_
        refine lv_dcmp hx hb dL_law_1089 ?_
        obtain ⟨hA, hB⟩ := h
        refine lv_if_eq (tgt := 1101) hx hb dL_law_1090 (by decide) (fun c13 => ?_) (fun c13 => ?_)
        · have h := hA c13
          refine lv_iconst (v := 0) hx hb dL_law_1101 (by decide) ?_
          exact h.elim
        · have h := hB c13
          refine lv_dload hx hb dL_law_1093 (lv_at hl 0 rfl) ?_
          refine lv_dload hx hb dL_law_1095 (lv_at hl 0 rfl) ?_
          refine lv_dcmp hx hb dL_law_1097 ?_
          obtain ⟨hA, hB⟩ := h
          refine lv_if_ne (tgt := 1103) hx hb dL_law_1098 (by decide) (fun c14 => ?_) (fun c14 => ?_)
          · have h := hA c14
            exact wk_law_1103 C hC hM hO21 hO22 hc0 hw0 hK h hw (lv_sub hl [2, 3, 4, 5, 6, 7] rfl)
          · have h := hB c14
            refine lv_iconst (v := 0) hx hb dL_law_1101 (by decide) ?_
            exact h.elim
  · have h := hB c7
    refine lv_iconst (v := 0) hx hb dL_law_1064 (by decide) ?_
    exact h.elim
set_option maxHeartbeats 4000000 in
set_option maxRecDepth 100000 in
theorem wk_law_1196 {p : Program} {l : Launch} {e : Env} {s : State} {m : MethodId} {args : Array Value} {below : List Frame} {meth : Method} {c : Code} {G : ck_G} {b L : Nat} {xs : Nat → Int32} {Q : State → Prop} {c0 w0 : Nat} (C : ck_LX p l s m meth c args b L xs G) (hC : ck_inC G) (hM : ck_inM G) (hO21 : (21, 0) ∈ ck_Ls G) (hO22 : (22, 0) ∈ ck_Ls G) (hc0 : c0 + 20 ≤ 600128) (hw0 : w0 + 200 ≤ 7301064) {K : ck_S → Int32 → Prop} (hK : ∀ (σ : ck_S) (x5 : Int32) (H : Heap) (locs : List Loc) (ls : Array Slot), K σ x5 → ck_H G s H locs σ → lv_has ls 9 [(0, .ref b), (1, .ref (ck_ad G 0 0)), (2, .ref (ck_ad G 10 0)), (3, .ref (ck_ad G 21 0)), (4, .ref (ck_ad G 22 0)), (5, .int x5)] → W p l e room_1 s m args below meth c H locs (c0 + 20) (w0 + 200) Q (F0 m 1534 ls [])) {σ : ck_S} {x5 : Int32} {H : Heap} {locs : List Loc} {ls : Array Slot} (h : sp_law_1196 (ck_nc G) (ck_nb G) xs L K σ x5) (hw : ck_H G s H locs σ) (hl : lv_has ls 9 [(0, .ref b), (1, .ref (ck_ad G 0 0)), (2, .ref (ck_ad G 10 0)), (3, .ref (ck_ad G 21 0)), (4, .ref (ck_ad G 22 0)), (5, .int x5)]) : W p l e room_1 s m args below meth c H locs (c0 + 1) (w0 + 6) Q (F0 m 1196 ls []) := by
  obtain ⟨hx, hb, hr, hml, hown, hts, hlocks, hlt, hE, hX, hbl, hbA⟩ := id C
  unfold sp_law_1196 at h
  refine lv_goto (tgt := 1534) hx hb dL_law_1196 (by decide) ?_
  refine W.widen (k := c0 + 20) (n := w0 + 200) (show c0 + 1 ≤ c0 + 20 by omega) (show w0 + 6 ≤ w0 + 200 by omega) ?_
  exact hK _ _ _ _ _ h hw (lv_sub hl [0, 1, 2, 3, 4, 5] rfl)
set_option maxHeartbeats 4000000 in
set_option maxRecDepth 100000 in
theorem wk_law_1143 {p : Program} {l : Launch} {e : Env} {s : State} {m : MethodId} {args : Array Value} {below : List Frame} {meth : Method} {c : Code} {G : ck_G} {b L : Nat} {xs : Nat → Int32} {Q : State → Prop} {c0 w0 : Nat} (C : ck_LX p l s m meth c args b L xs G) (hC : ck_inC G) (hM : ck_inM G) (hO21 : (21, 0) ∈ ck_Ls G) (hO22 : (22, 0) ∈ ck_Ls G) (hc0 : c0 + 20 ≤ 600128) (hw0 : w0 + 200 ≤ 7301064) {K : ck_S → Int32 → Prop} (hK : ∀ (σ : ck_S) (x5 : Int32) (H : Heap) (locs : List Loc) (ls : Array Slot), K σ x5 → ck_H G s H locs σ → lv_has ls 9 [(0, .ref b), (1, .ref (ck_ad G 0 0)), (2, .ref (ck_ad G 10 0)), (3, .ref (ck_ad G 21 0)), (4, .ref (ck_ad G 22 0)), (5, .int x5)] → W p l e room_1 s m args below meth c H locs (c0 + 20) (w0 + 200) Q (F0 m 1534 ls [])) {σ : ck_S} {x5 : Int32} {x6 : Int32} {s0 : Int32} {H : Heap} {locs : List Loc} {ls : Array Slot} (h : sp_law_1143 (ck_nc G) (ck_nb G) xs L K σ x5 x6 s0) (hw : ck_H G s H locs σ) (hl : lv_has ls 9 [(0, .ref b), (1, .ref (ck_ad G 0 0)), (2, .ref (ck_ad G 10 0)), (3, .ref (ck_ad G 21 0)), (4, .ref (ck_ad G 22 0)), (5, .int x5), (6, .int x6)]) : W p l e room_1 s m args below meth c H locs (c0 + 1) (w0 + 6) Q (F0 m 1143 ls [.int s0, .ref (ck_ad G 10 0)]) := by
  obtain ⟨hx, hb, hr, hml, hown, hts, hlocks, hlt, hE, hX, hbl, hbA⟩ := id C
  unfold sp_law_1143 at h
  refine ck_callVd (rest := []) ⟨hx, hb, hml, hown, hts⟩ hw (hM 10 (by decide) (by decide)) rfl rfl (ct_X7_allowed l G hM h) (cwV 1 hts gT_X7_allowed rfl rfl rfl (by decide +kernel) ⟨(Nat.le_of_ble_eq_true rfl), (Nat.le_of_ble_eq_true rfl)⟩) rfl hl.1 rfl (Nat.le_of_ble_eq_true rfl) dL_law_1143 ⟨show c0 + 1 ≤ 600128 by omega, show w0 + 6 ≤ 7301064 by omega⟩ (fun z_2 σ1 H locs h hw => ?_)
  refine lv_dstore (lv' := [(7, .double z_2), (0, .ref b), (1, .ref (ck_ad G 0 0)), (2, .ref (ck_ad G 10 0)), (3, .ref (ck_ad G 21 0)), (4, .ref (ck_ad G 22 0)), (5, .int x5), (6, .int x6)]) hx hb dL_law_1146 hl (by decide) rfl (fun ls hl => ?_)
  refine lv_aload_n hx hb dL_law_1148 rfl (lv_at hl 3 rfl) ?_
  refine ck_callVi (rest := []) ⟨hx, hb, hml, hown, hts⟩ hw (hM 10 (by decide) (by decide)) rfl rfl (ct_X7_thrown l G hM h) (cwV 0 hts gT_X7_thrown rfl rfl rfl (by decide +kernel) ⟨(Nat.le_of_ble_eq_true rfl), (Nat.le_of_ble_eq_true rfl)⟩) rfl hl.1 rfl (Nat.le_of_ble_eq_true rfl) dL_law_1149 ⟨show c0 + 1 ≤ 600128 by omega, show w0 + 6 ≤ 7301064 by omega⟩ (fun x_4 σ3 H locs h hw => ?_)
  refine lv_iload hx hb dL_law_1152 (lv_at hl 7 rfl) ?_
  obtain ⟨hA, hB⟩ := h
  refine lv_icmp_eq (tgt := 1159) hx hb dL_law_1154 (by decide) (fun c5 => ?_) (fun c5 => ?_)
  · have h := hA c5
    refine lv_iload hx hb dL_law_1159 (lv_at hl 7 rfl) ?_
    obtain ⟨hA, hB⟩ := h
    refine lv_if_ne (tgt := 1196) hx hb dL_law_1161 (by decide) (fun c6 => ?_) (fun c6 => ?_)
    · have h := hA c6
      exact wk_law_1196 C hC hM hO21 hO22 hc0 hw0 hK h hw (lv_sub hl [1, 2, 3, 4, 5, 6] rfl)
    · have h := hB c6
      refine lv_aload hx hb dL_law_1164 (lv_at hl 5 rfl) ?_
      refine lv_iconst (v := 0) hx hb dL_law_1166 (by decide) ?_
      obtain ⟨n7, h⟩ := h
      refine ck_dald hx hb hw hO22 rfl n7 dL_law_1167 ?_
      refine lv_dload hx hb dL_law_1168 (lv_at hl 0 rfl) ?_
      refine lv_dcmp hx hb dL_law_1170 ?_
      obtain ⟨hA, hB⟩ := h
      refine lv_if_eq (tgt := 1196) hx hb dL_law_1171 (by decide) (fun c8 => ?_) (fun c8 => ?_)
      · have h := hA c8
        exact wk_law_1196 C hC hM hO21 hO22 hc0 hw0 hK h hw (lv_sub hl [1, 2, 3, 4, 5, 6] rfl)
      · have h := hB c8
        refine lv_aload hx hb dL_law_1174 (lv_at hl 5 rfl) ?_
        refine lv_iconst (v := 0) hx hb dL_law_1176 (by decide) ?_
        obtain ⟨n9, h⟩ := h
        refine ck_dald hx hb hw hO22 rfl n9 dL_law_1177 ?_
        refine lv_aload hx hb dL_law_1178 (lv_at hl 5 rfl) ?_
        refine lv_iconst (v := 0) hx hb dL_law_1180 (by decide) ?_
        obtain ⟨n10, h⟩ := h
        refine ck_dald hx hb hw hO22 rfl n10 dL_law_1181 ?_
        refine lv_dcmp hx hb dL_law_1182 ?_
        obtain ⟨hA, hB⟩ := h
        refine lv_if_eq (tgt := 1194) hx hb dL_law_1183 (by decide) (fun c11 => ?_) (fun c11 => ?_)
        · have h := hA c11
          refine lv_iconst (v := 0) hx hb dL_law_1194 (by decide) ?_
          exact h.elim
        · have h := hB c11
          refine lv_dload hx hb dL_law_1186 (lv_at hl 0 rfl) ?_
          refine lv_dload hx hb dL_law_1188 (lv_at hl 0 rfl) ?_
          refine lv_dcmp hx hb dL_law_1190 ?_
          obtain ⟨hA, hB⟩ := h
          refine lv_if_ne (tgt := 1196) hx hb dL_law_1191 (by decide) (fun c12 => ?_) (fun c12 => ?_)
          · have h := hA c12
            exact wk_law_1196 C hC hM hO21 hO22 hc0 hw0 hK h hw (lv_sub hl [1, 2, 3, 4, 5, 6] rfl)
          · have h := hB c12
            refine lv_iconst (v := 0) hx hb dL_law_1194 (by decide) ?_
            exact h.elim
  · have h := hB c5
    refine lv_iconst (v := 0) hx hb dL_law_1157 (by decide) ?_
    exact h.elim
set_option maxHeartbeats 4000000 in
set_option maxRecDepth 100000 in
theorem wk_law_1121 {p : Program} {l : Launch} {e : Env} {s : State} {m : MethodId} {args : Array Value} {below : List Frame} {meth : Method} {c : Code} {G : ck_G} {b L : Nat} {xs : Nat → Int32} {Q : State → Prop} {c0 w0 : Nat} (C : ck_LX p l s m meth c args b L xs G) (hC : ck_inC G) (hM : ck_inM G) (hO21 : (21, 0) ∈ ck_Ls G) (hO22 : (22, 0) ∈ ck_Ls G) (hc0 : c0 + 20 ≤ 600128) (hw0 : w0 + 200 ≤ 7301064) {K : ck_S → Int32 → Prop} (hK : ∀ (σ : ck_S) (x5 : Int32) (H : Heap) (locs : List Loc) (ls : Array Slot), K σ x5 → ck_H G s H locs σ → lv_has ls 9 [(0, .ref b), (1, .ref (ck_ad G 0 0)), (2, .ref (ck_ad G 10 0)), (3, .ref (ck_ad G 21 0)), (4, .ref (ck_ad G 22 0)), (5, .int x5)] → W p l e room_1 s m args below meth c H locs (c0 + 20) (w0 + 200) Q (F0 m 1534 ls [])) {σ : ck_S} {x5 : Int32} {s0 : Int32} {H : Heap} {locs : List Loc} {ls : Array Slot} (h : sp_law_1121 (ck_nc G) (ck_nb G) xs L K σ x5 s0) (hw : ck_H G s H locs σ) (hl : lv_has ls 9 [(0, .ref b), (1, .ref (ck_ad G 0 0)), (2, .ref (ck_ad G 10 0)), (3, .ref (ck_ad G 21 0)), (4, .ref (ck_ad G 22 0)), (5, .int x5)]) : W p l e room_1 s m args below meth c H locs (c0 + 0) (w0 + 0) Q (F0 m 1121 ls [.int s0, .ref (ck_ad G 0 0)]) := by
  obtain ⟨hx, hb, hr, hml, hown, hts, hlocks, hlt, hE, hX, hbl, hbA⟩ := id C
  unfold sp_law_1121 at h
  refine lv_aload hx hb dL_law_1121 (lv_at hl 4 rfl) ?_
  refine ck_wcallSi (rest := []) ⟨hx, hb, hml, hown, hts⟩ hw hE (ct_L_allowed l hlt G hO22 hC h) (vx_cwSW 3 hts gT_L_allowed rfl rfl rfl (by decide +kernel) ⟨(Nat.le_of_ble_eq_true rfl), (Nat.le_of_ble_eq_true rfl)⟩) rfl hl.1 rfl (Nat.le_of_ble_eq_true rfl) dL_law_1123 ⟨show c0 + 1 ≤ 600128 by omega, show w0 + 6 ≤ 7301064 by omega⟩ (fun x_2 σ1 H locs h hw => ?_)
  refine lv_istore (lv' := [(6, .int x_2), (0, .ref b), (1, .ref (ck_ad G 0 0)), (2, .ref (ck_ad G 10 0)), (3, .ref (ck_ad G 21 0)), (4, .ref (ck_ad G 22 0)), (5, .int x5)]) hx hb dL_law_1126 hl (by decide) rfl (fun ls hl => ?_)
  refine lv_aload_n hx hb dL_law_1128 rfl (lv_at hl 3 rfl) ?_
  refine lv_aload_n hx hb dL_law_1129 rfl (lv_at hl 1 rfl) ?_
  refine lv_iload hx hb dL_law_1130 (lv_at hl 6 rfl) ?_
  refine lv_iconst (v := 1) hx hb dL_law_1132 (by decide) ?_
  refine lv_iadd hx hb dL_law_1133 ?_
  refine lv_topi (fun x_3 ex_3 => ?_)
  have h := h x_3 ex_3
  obtain ⟨n4, h⟩ := h
  refine va_sld hx hb hX hbl hbA hw.2.2.2 n4 dL_law_1134 ?_
  obtain ⟨hA, hB⟩ := h
  refine lv_if_eq (tgt := 1142) hx hb dL_law_1135 (by decide) (fun c5 => ?_) (fun c5 => ?_)
  · have h := hA c5
    refine lv_iconst (v := 0) hx hb dL_law_1142 (by decide) ?_
    exact wk_law_1143 C hC hM hO21 hO22 hc0 hw0 hK h hw (lv_sub hl [1, 2, 3, 4, 5, 6, 0] rfl)
  · have h := hB c5
    refine lv_iconst (v := 1) hx hb dL_law_1138 (by decide) ?_
    refine lv_goto (tgt := 1143) hx hb dL_law_1139 (by decide) ?_
    exact wk_law_1143 C hC hM hO21 hO22 hc0 hw0 hK h hw (lv_sub hl [1, 2, 3, 4, 5, 6, 0] rfl)
set_option maxHeartbeats 4000000 in
set_option maxRecDepth 100000 in
theorem wk_law_1106 {p : Program} {l : Launch} {e : Env} {s : State} {m : MethodId} {args : Array Value} {below : List Frame} {meth : Method} {c : Code} {G : ck_G} {b L : Nat} {xs : Nat → Int32} {Q : State → Prop} {c0 w0 : Nat} (C : ck_LX p l s m meth c args b L xs G) (hC : ck_inC G) (hM : ck_inM G) (hO21 : (21, 0) ∈ ck_Ls G) (hO22 : (22, 0) ∈ ck_Ls G) (hc0 : c0 + 20 ≤ 600128) (hw0 : w0 + 200 ≤ 7301064) {K : ck_S → Int32 → Prop} (hK : ∀ (σ : ck_S) (x5 : Int32) (H : Heap) (locs : List Loc) (ls : Array Slot), K σ x5 → ck_H G s H locs σ → lv_has ls 9 [(0, .ref b), (1, .ref (ck_ad G 0 0)), (2, .ref (ck_ad G 10 0)), (3, .ref (ck_ad G 21 0)), (4, .ref (ck_ad G 22 0)), (5, .int x5)] → W p l e room_1 s m args below meth c H locs (c0 + 20) (w0 + 200) Q (F0 m 1534 ls [])) {σ : ck_S} {x5 : Int32} {H : Heap} {locs : List Loc} {ls : Array Slot} (h : sp_law_1106 (ck_nc G) (ck_nb G) xs L K σ x5) (hw : ck_H G s H locs σ) (hl : lv_has ls 9 [(0, .ref b), (1, .ref (ck_ad G 0 0)), (2, .ref (ck_ad G 10 0)), (3, .ref (ck_ad G 21 0)), (4, .ref (ck_ad G 22 0)), (5, .int x5)]) : W p l e room_1 s m args below meth c H locs (c0 + 0) (w0 + 0) Q (F0 m 1106 ls []) := by
  obtain ⟨hx, hb, hr, hml, hown, hts, hlocks, hlt, hE, hX, hbl, hbA⟩ := id C
  unfold sp_law_1106 at h
  refine lv_aload_n hx hb dL_law_1106 rfl (lv_at hl 1 rfl) ?_
  refine lv_aload_n hx hb dL_law_1107 rfl (lv_at hl 0 rfl) ?_
  refine lv_iload hx hb dL_law_1108 (lv_at hl 5 rfl) ?_
  refine lv_iconst (v := 1) hx hb dL_law_1110 (by decide) ?_
  refine lv_iadd hx hb dL_law_1111 ?_
  refine lv_topi (fun x_1 ex_1 => ?_)
  have h := h x_1 ex_1
  obtain ⟨n2, h⟩ := h
  refine va_sld hx hb hX hbl hbA hw.2.2.2 n2 dL_law_1112 ?_
  obtain ⟨hA, hB⟩ := h
  refine lv_if_eq (tgt := 1120) hx hb dL_law_1113 (by decide) (fun c3 => ?_) (fun c3 => ?_)
  · have h := hA c3
    refine lv_iconst (v := 0) hx hb dL_law_1120 (by decide) ?_
    exact wk_law_1121 C hC hM hO21 hO22 hc0 hw0 hK h hw (lv_sub hl [0, 1, 2, 3, 4, 5] rfl)
  · have h := hB c3
    refine lv_iconst (v := 1) hx hb dL_law_1116 (by decide) ?_
    refine lv_goto (tgt := 1121) hx hb dL_law_1117 (by decide) ?_
    exact wk_law_1121 C hC hM hO21 hO22 hc0 hw0 hK h hw (lv_sub hl [0, 1, 2, 3, 4, 5] rfl)
set_option maxHeartbeats 4000000 in
set_option maxRecDepth 100000 in
theorem wk_law_1271 {p : Program} {l : Launch} {e : Env} {s : State} {m : MethodId} {args : Array Value} {below : List Frame} {meth : Method} {c : Code} {G : ck_G} {b L : Nat} {xs : Nat → Int32} {Q : State → Prop} {c0 w0 : Nat} (C : ck_LX p l s m meth c args b L xs G) (hC : ck_inC G) (hM : ck_inM G) (hO21 : (21, 0) ∈ ck_Ls G) (hO22 : (22, 0) ∈ ck_Ls G) (hc0 : c0 + 20 ≤ 600128) (hw0 : w0 + 200 ≤ 7301064) {K : ck_S → Int32 → Prop} (hK : ∀ (σ : ck_S) (x5 : Int32) (H : Heap) (locs : List Loc) (ls : Array Slot), K σ x5 → ck_H G s H locs σ → lv_has ls 9 [(0, .ref b), (1, .ref (ck_ad G 0 0)), (2, .ref (ck_ad G 10 0)), (3, .ref (ck_ad G 21 0)), (4, .ref (ck_ad G 22 0)), (5, .int x5)] → W p l e room_1 s m args below meth c H locs (c0 + 20) (w0 + 200) Q (F0 m 1534 ls [])) {σ : ck_S} {x5 : Int32} {H : Heap} {locs : List Loc} {ls : Array Slot} (h : sp_law_1271 (ck_nc G) (ck_nb G) xs L K σ x5) (hw : ck_H G s H locs σ) (hl : lv_has ls 9 [(0, .ref b), (1, .ref (ck_ad G 0 0)), (2, .ref (ck_ad G 10 0)), (3, .ref (ck_ad G 21 0)), (4, .ref (ck_ad G 22 0)), (5, .int x5)]) : W p l e room_1 s m args below meth c H locs (c0 + 3) (w0 + 18) Q (F0 m 1271 ls []) := by
  obtain ⟨hx, hb, hr, hml, hown, hts, hlocks, hlt, hE, hX, hbl, hbA⟩ := id C
  unfold sp_law_1271 at h
  refine lv_goto (tgt := 1534) hx hb dL_law_1271 (by decide) ?_
  refine W.widen (k := c0 + 20) (n := w0 + 200) (show c0 + 3 ≤ c0 + 20 by omega) (show w0 + 18 ≤ w0 + 200 by omega) ?_
  exact hK _ _ _ _ _ h hw (lv_sub hl [0, 1, 2, 3, 4, 5] rfl)
set_option maxHeartbeats 4000000 in
set_option maxRecDepth 100000 in
theorem wk_law_1265 {p : Program} {l : Launch} {e : Env} {s : State} {m : MethodId} {args : Array Value} {below : List Frame} {meth : Method} {c : Code} {G : ck_G} {b L : Nat} {xs : Nat → Int32} {Q : State → Prop} {c0 w0 : Nat} (C : ck_LX p l s m meth c args b L xs G) (hC : ck_inC G) (hM : ck_inM G) (hO21 : (21, 0) ∈ ck_Ls G) (hO22 : (22, 0) ∈ ck_Ls G) (hc0 : c0 + 20 ≤ 600128) (hw0 : w0 + 200 ≤ 7301064) {K : ck_S → Int32 → Prop} (hK : ∀ (σ : ck_S) (x5 : Int32) (H : Heap) (locs : List Loc) (ls : Array Slot), K σ x5 → ck_H G s H locs σ → lv_has ls 9 [(0, .ref b), (1, .ref (ck_ad G 0 0)), (2, .ref (ck_ad G 10 0)), (3, .ref (ck_ad G 21 0)), (4, .ref (ck_ad G 22 0)), (5, .int x5)] → W p l e room_1 s m args below meth c H locs (c0 + 20) (w0 + 200) Q (F0 m 1534 ls [])) {σ : ck_S} {x5 : Int32} {s0 : Int64} {s1 : Int64} {H : Heap} {locs : List Loc} {ls : Array Slot} (h : sp_law_1265 (ck_nc G) (ck_nb G) xs L K σ x5 s0 s1) (hw : ck_H G s H locs σ) (hl : lv_has ls 9 [(0, .ref b), (1, .ref (ck_ad G 0 0)), (2, .ref (ck_ad G 10 0)), (3, .ref (ck_ad G 21 0)), (4, .ref (ck_ad G 22 0)), (5, .int x5)]) : W p l e room_1 s m args below meth c H locs (c0 + 3) (w0 + 18) Q (F0 m 1265 ls [.long s0, .long s1]) := by
  obtain ⟨hx, hb, hr, hml, hown, hts, hlocks, hlt, hE, hX, hbl, hbA⟩ := id C
  unfold sp_law_1265 at h
  refine W.lcmp hx hb dL_law_1265 ?_
  obtain ⟨hA, hB⟩ := h
  refine lv_if_eq (tgt := 1271) hx hb dL_law_1266 (by decide) (fun c1 => ?_) (fun c1 => ?_)
  · have h := hA c1
    exact wk_law_1271 C hC hM hO21 hO22 hc0 hw0 hK h hw (lv_sub hl [0, 1, 2, 3, 4, 5] rfl)
  · have h := hB c1
    refine lv_iconst (v := 0) hx hb dL_law_1269 (by decide) ?_
    exact h.elim
set_option maxHeartbeats 4000000 in
set_option maxRecDepth 100000 in
theorem wk_law_1199 {p : Program} {l : Launch} {e : Env} {s : State} {m : MethodId} {args : Array Value} {below : List Frame} {meth : Method} {c : Code} {G : ck_G} {b L : Nat} {xs : Nat → Int32} {Q : State → Prop} {c0 w0 : Nat} (C : ck_LX p l s m meth c args b L xs G) (hC : ck_inC G) (hM : ck_inM G) (hO21 : (21, 0) ∈ ck_Ls G) (hO22 : (22, 0) ∈ ck_Ls G) (hc0 : c0 + 20 ≤ 600128) (hw0 : w0 + 200 ≤ 7301064) {K : ck_S → Int32 → Prop} (hK : ∀ (σ : ck_S) (x5 : Int32) (H : Heap) (locs : List Loc) (ls : Array Slot), K σ x5 → ck_H G s H locs σ → lv_has ls 9 [(0, .ref b), (1, .ref (ck_ad G 0 0)), (2, .ref (ck_ad G 10 0)), (3, .ref (ck_ad G 21 0)), (4, .ref (ck_ad G 22 0)), (5, .int x5)] → W p l e room_1 s m args below meth c H locs (c0 + 20) (w0 + 200) Q (F0 m 1534 ls [])) {σ : ck_S} {x5 : Int32} {H : Heap} {locs : List Loc} {ls : Array Slot} (h : sp_law_1199 (ck_nc G) (ck_nb G) xs L K σ x5) (hw : ck_H G s H locs σ) (hl : lv_has ls 9 [(0, .ref b), (1, .ref (ck_ad G 0 0)), (2, .ref (ck_ad G 10 0)), (3, .ref (ck_ad G 21 0)), (4, .ref (ck_ad G 22 0)), (5, .int x5)]) : W p l e room_1 s m args below meth c H locs (c0 + 0) (w0 + 0) Q (F0 m 1199 ls []) := by
  obtain ⟨hx, hb, hr, hml, hown, hts, hlocks, hlt, hE, hX, hbl, hbA⟩ := id C
  unfold sp_law_1199 at h
  refine lv_aload_n hx hb dL_law_1199 rfl (lv_at hl 1 rfl) ?_
  refine lv_aload_n hx hb dL_law_1200 rfl (lv_at hl 0 rfl) ?_
  refine lv_iload hx hb dL_law_1201 (lv_at hl 5 rfl) ?_
  refine lv_iconst (v := 1) hx hb dL_law_1203 (by decide) ?_
  refine lv_iadd hx hb dL_law_1204 ?_
  refine lv_topi (fun x_1 ex_1 => ?_)
  have h := h x_1 ex_1
  obtain ⟨n2, h⟩ := h
  refine va_sld hx hb hX hbl hbA hw.2.2.2 n2 dL_law_1205 ?_
  refine lv_aload_n hx hb dL_law_1206 rfl (lv_at hl 0 rfl) ?_
  refine lv_iload hx hb dL_law_1207 (lv_at hl 5 rfl) ?_
  refine lv_iconst (v := 2) hx hb dL_law_1209 (by decide) ?_
  refine lv_iadd hx hb dL_law_1210 ?_
  refine lv_topi (fun x_3 ex_3 => ?_)
  have h := h x_3 ex_3
  obtain ⟨n4, h⟩ := h
  refine va_sld hx hb hX hbl hbA hw.2.2.2 n4 dL_law_1211 ?_
  refine lv_aload_n hx hb dL_law_1212 rfl (lv_at hl 3 rfl) ?_
  refine ck_wcallSi (rest := []) ⟨hx, hb, hml, hown, hts⟩ hw hE (ct_L_valid l hlt G hO21 hC h) (vx_cwSW 4 hts gT_L_valid rfl rfl rfl (by decide +kernel) ⟨(Nat.le_of_ble_eq_true rfl), (Nat.le_of_ble_eq_true rfl)⟩) rfl hl.1 rfl (Nat.le_of_ble_eq_true rfl) dL_law_1213 ⟨show c0 + 3 ≤ 600128 by omega, show w0 + 18 ≤ 7301064 by omega⟩ (fun x_6 σ5 H locs h hw => ?_)
  refine lv_istore (lv' := [(6, .int x_6), (0, .ref b), (1, .ref (ck_ad G 0 0)), (2, .ref (ck_ad G 10 0)), (3, .ref (ck_ad G 21 0)), (4, .ref (ck_ad G 22 0)), (5, .int x5)]) hx hb dL_law_1216 hl (by decide) rfl (fun ls hl => ?_)
  refine lv_aload_n hx hb dL_law_1218 rfl (lv_at hl 3 rfl) ?_
  refine lv_aload_n hx hb dL_law_1219 rfl (lv_at hl 1 rfl) ?_
  refine lv_iload hx hb dL_law_1220 (lv_at hl 6 rfl) ?_
  refine lv_iconst (v := 1) hx hb dL_law_1222 (by decide) ?_
  refine lv_iadd hx hb dL_law_1223 ?_
  refine lv_topi (fun x_7 ex_7 => ?_)
  have h := h x_7 ex_7
  obtain ⟨n8, h⟩ := h
  refine va_sld hx hb hX hbl hbA hw.2.2.2 n8 dL_law_1224 ?_
  refine lv_aload_n hx hb dL_law_1225 rfl (lv_at hl 1 rfl) ?_
  refine lv_iload hx hb dL_law_1226 (lv_at hl 6 rfl) ?_
  refine lv_iconst (v := 2) hx hb dL_law_1228 (by decide) ?_
  refine lv_iadd hx hb dL_law_1229 ?_
  refine lv_topi (fun x_9 ex_9 => ?_)
  have h := h x_9 ex_9
  obtain ⟨n10, h⟩ := h
  refine va_sld hx hb hX hbl hbA hw.2.2.2 n10 dL_law_1230 ?_
  refine ck_callVi (rest := []) ⟨hx, hb, hml, hown, hts⟩ hw (hM 10 (by decide) (by decide)) rfl rfl (ct_X7_valid l G hM h) (cwV 2 hts gT_X7_valid rfl rfl rfl (by decide +kernel) ⟨(Nat.le_of_ble_eq_true rfl), (Nat.le_of_ble_eq_true rfl)⟩) rfl hl.1 rfl (Nat.le_of_ble_eq_true rfl) dL_law_1231 ⟨show c0 + 3 ≤ 600128 by omega, show w0 + 18 ≤ 7301064 by omega⟩ (fun x_12 σ11 H locs h hw => ?_)
  refine lv_istore (lv' := [(7, .int x_12), (6, .int x_6), (0, .ref b), (1, .ref (ck_ad G 0 0)), (2, .ref (ck_ad G 10 0)), (3, .ref (ck_ad G 21 0)), (4, .ref (ck_ad G 22 0)), (5, .int x5)]) hx hb dL_law_1234 hl (by decide) rfl (fun ls hl => ?_)
  refine lv_aload_n hx hb dL_law_1236 rfl (lv_at hl 4 rfl) ?_
  refine ck_callVi (rest := []) ⟨hx, hb, hml, hown, hts⟩ hw (hM 10 (by decide) (by decide)) rfl rfl (ct_X7_thrown l G hM h) (cwV 0 hts gT_X7_thrown rfl rfl rfl (by decide +kernel) ⟨(Nat.le_of_ble_eq_true rfl), (Nat.le_of_ble_eq_true rfl)⟩) rfl hl.1 rfl (Nat.le_of_ble_eq_true rfl) dL_law_1237 ⟨show c0 + 3 ≤ 600128 by omega, show w0 + 18 ≤ 7301064 by omega⟩ (fun x_14 σ13 H locs h hw => ?_)
  refine lv_iload hx hb dL_law_1240 (lv_at hl 1 rfl) ?_
  obtain ⟨hA, hB⟩ := h
  refine lv_icmp_eq (tgt := 1247) hx hb dL_law_1242 (by decide) (fun c15 => ?_) (fun c15 => ?_)
  · have h := hA c15
    refine lv_iload hx hb dL_law_1247 (lv_at hl 1 rfl) ?_
    obtain ⟨hA, hB⟩ := h
    refine lv_if_ne (tgt := 1271) hx hb dL_law_1249 (by decide) (fun c16 => ?_) (fun c16 => ?_)
    · have h := hA c16
      exact wk_law_1271 C hC hM hO21 hO22 hc0 hw0 hK h hw (lv_sub hl [2, 3, 4, 5, 6, 7] rfl)
    · have h := hB c16
      refine lv_aload_n hx hb dL_law_1252 rfl (lv_at hl 5 rfl) ?_
      refine lv_iconst (v := 0) hx hb dL_law_1253 (by decide) ?_
      obtain ⟨n17, h⟩ := h
      refine ck_lald hx hb hw hO21 rfl n17 dL_law_1254 ?_
      refine lv_topl (fun y_18 ey_18 => ?_)
      have h := h y_18 ey_18
      refine lv_iload hx hb dL_law_1255 (lv_at hl 0 rfl) ?_
      obtain ⟨hA, hB⟩ := h
      refine lv_if_eq (tgt := 1264) hx hb dL_law_1257 (by decide) (fun c19 => ?_) (fun c19 => ?_)
      · have h := hA c19
        refine lv_lconst (v := 0) hx hb dL_law_1264 (by decide) ?_
        exact wk_law_1265 C hC hM hO21 hO22 hc0 hw0 hK h hw (lv_sub hl [2, 3, 4, 5, 6, 7] rfl)
      · have h := hB c19
        refine lv_lconst (v := 1) hx hb dL_law_1260 (by decide) ?_
        refine lv_goto (tgt := 1265) hx hb dL_law_1261 (by decide) ?_
        exact wk_law_1265 C hC hM hO21 hO22 hc0 hw0 hK h hw (lv_sub hl [2, 3, 4, 5, 6, 7] rfl)
  · have h := hB c15
    refine lv_iconst (v := 0) hx hb dL_law_1245 (by decide) ?_
    exact h.elim
set_option maxHeartbeats 4000000 in
set_option maxRecDepth 100000 in
theorem wk_law_1327 {p : Program} {l : Launch} {e : Env} {s : State} {m : MethodId} {args : Array Value} {below : List Frame} {meth : Method} {c : Code} {G : ck_G} {b L : Nat} {xs : Nat → Int32} {Q : State → Prop} {c0 w0 : Nat} (C : ck_LX p l s m meth c args b L xs G) (hC : ck_inC G) (hM : ck_inM G) (hO21 : (21, 0) ∈ ck_Ls G) (hO22 : (22, 0) ∈ ck_Ls G) (hc0 : c0 + 20 ≤ 600128) (hw0 : w0 + 200 ≤ 7301064) {K : ck_S → Int32 → Prop} (hK : ∀ (σ : ck_S) (x5 : Int32) (H : Heap) (locs : List Loc) (ls : Array Slot), K σ x5 → ck_H G s H locs σ → lv_has ls 9 [(0, .ref b), (1, .ref (ck_ad G 0 0)), (2, .ref (ck_ad G 10 0)), (3, .ref (ck_ad G 21 0)), (4, .ref (ck_ad G 22 0)), (5, .int x5)] → W p l e room_1 s m args below meth c H locs (c0 + 20) (w0 + 200) Q (F0 m 1534 ls [])) {σ : ck_S} {x5 : Int32} {H : Heap} {locs : List Loc} {ls : Array Slot} (h : sp_law_1327 (ck_nc G) (ck_nb G) xs L K σ x5) (hw : ck_H G s H locs σ) (hl : lv_has ls 9 [(0, .ref b), (1, .ref (ck_ad G 0 0)), (2, .ref (ck_ad G 10 0)), (3, .ref (ck_ad G 21 0)), (4, .ref (ck_ad G 22 0)), (5, .int x5)]) : W p l e room_1 s m args below meth c H locs (c0 + 2) (w0 + 12) Q (F0 m 1327 ls []) := by
  obtain ⟨hx, hb, hr, hml, hown, hts, hlocks, hlt, hE, hX, hbl, hbA⟩ := id C
  unfold sp_law_1327 at h
  refine lv_goto (tgt := 1534) hx hb dL_law_1327 (by decide) ?_
  refine W.widen (k := c0 + 20) (n := w0 + 200) (show c0 + 2 ≤ c0 + 20 by omega) (show w0 + 12 ≤ w0 + 200 by omega) ?_
  exact hK _ _ _ _ _ h hw (lv_sub hl [0, 1, 2, 3, 4, 5] rfl)
set_option maxHeartbeats 4000000 in
set_option maxRecDepth 100000 in
theorem wk_law_1274 {p : Program} {l : Launch} {e : Env} {s : State} {m : MethodId} {args : Array Value} {below : List Frame} {meth : Method} {c : Code} {G : ck_G} {b L : Nat} {xs : Nat → Int32} {Q : State → Prop} {c0 w0 : Nat} (C : ck_LX p l s m meth c args b L xs G) (hC : ck_inC G) (hM : ck_inM G) (hO21 : (21, 0) ∈ ck_Ls G) (hO22 : (22, 0) ∈ ck_Ls G) (hc0 : c0 + 20 ≤ 600128) (hw0 : w0 + 200 ≤ 7301064) {K : ck_S → Int32 → Prop} (hK : ∀ (σ : ck_S) (x5 : Int32) (H : Heap) (locs : List Loc) (ls : Array Slot), K σ x5 → ck_H G s H locs σ → lv_has ls 9 [(0, .ref b), (1, .ref (ck_ad G 0 0)), (2, .ref (ck_ad G 10 0)), (3, .ref (ck_ad G 21 0)), (4, .ref (ck_ad G 22 0)), (5, .int x5)] → W p l e room_1 s m args below meth c H locs (c0 + 20) (w0 + 200) Q (F0 m 1534 ls [])) {σ : ck_S} {x5 : Int32} {H : Heap} {locs : List Loc} {ls : Array Slot} (h : sp_law_1274 (ck_nc G) (ck_nb G) xs L K σ x5) (hw : ck_H G s H locs σ) (hl : lv_has ls 9 [(0, .ref b), (1, .ref (ck_ad G 0 0)), (2, .ref (ck_ad G 10 0)), (3, .ref (ck_ad G 21 0)), (4, .ref (ck_ad G 22 0)), (5, .int x5)]) : W p l e room_1 s m args below meth c H locs (c0 + 0) (w0 + 0) Q (F0 m 1274 ls []) := by
  obtain ⟨hx, hb, hr, hml, hown, hts, hlocks, hlt, hE, hX, hbl, hbA⟩ := id C
  unfold sp_law_1274 at h
  refine lv_aload_n hx hb dL_law_1274 rfl (lv_at hl 1 rfl) ?_
  refine lv_aload_n hx hb dL_law_1275 rfl (lv_at hl 0 rfl) ?_
  refine lv_iload hx hb dL_law_1276 (lv_at hl 5 rfl) ?_
  refine lv_iconst (v := 1) hx hb dL_law_1278 (by decide) ?_
  refine lv_iadd hx hb dL_law_1279 ?_
  refine lv_topi (fun x_1 ex_1 => ?_)
  have h := h x_1 ex_1
  obtain ⟨n2, h⟩ := h
  refine va_sld hx hb hX hbl hbA hw.2.2.2 n2 dL_law_1280 ?_
  refine lv_aload_n hx hb dL_law_1281 rfl (lv_at hl 3 rfl) ?_
  refine ck_wcallSi (rest := []) ⟨hx, hb, hml, hown, hts⟩ hw hE (ct_L_bleeding l hlt G hO21 hC h) (vx_cwSW 3 hts gT_L_bleeding rfl rfl rfl (by decide +kernel) ⟨(Nat.le_of_ble_eq_true rfl), (Nat.le_of_ble_eq_true rfl)⟩) rfl hl.1 rfl (Nat.le_of_ble_eq_true rfl) dL_law_1282 ⟨show c0 + 2 ≤ 600128 by omega, show w0 + 12 ≤ 7301064 by omega⟩ (fun x_4 σ3 H locs h hw => ?_)
  refine lv_istore (lv' := [(6, .int x_4), (0, .ref b), (1, .ref (ck_ad G 0 0)), (2, .ref (ck_ad G 10 0)), (3, .ref (ck_ad G 21 0)), (4, .ref (ck_ad G 22 0)), (5, .int x5)]) hx hb dL_law_1285 hl (by decide) rfl (fun ls hl => ?_)
  refine lv_aload_n hx hb dL_law_1287 rfl (lv_at hl 3 rfl) ?_
  refine lv_aload_n hx hb dL_law_1288 rfl (lv_at hl 1 rfl) ?_
  refine lv_iload hx hb dL_law_1289 (lv_at hl 6 rfl) ?_
  refine lv_iconst (v := 1) hx hb dL_law_1291 (by decide) ?_
  refine lv_iadd hx hb dL_law_1292 ?_
  refine lv_topi (fun x_5 ex_5 => ?_)
  have h := h x_5 ex_5
  obtain ⟨n6, h⟩ := h
  refine va_sld hx hb hX hbl hbA hw.2.2.2 n6 dL_law_1293 ?_
  refine ck_callVi (rest := []) ⟨hx, hb, hml, hown, hts⟩ hw (hM 10 (by decide) (by decide)) rfl rfl (ct_X7_bleeding l G hM h) (cwV 1 hts gT_X7_bleeding rfl rfl rfl (by decide +kernel) ⟨(Nat.le_of_ble_eq_true rfl), (Nat.le_of_ble_eq_true rfl)⟩) rfl hl.1 rfl (Nat.le_of_ble_eq_true rfl) dL_law_1294 ⟨show c0 + 2 ≤ 600128 by omega, show w0 + 12 ≤ 7301064 by omega⟩ (fun x_8 σ7 H locs h hw => ?_)
  refine lv_istore (lv' := [(7, .int x_8), (6, .int x_4), (0, .ref b), (1, .ref (ck_ad G 0 0)), (2, .ref (ck_ad G 10 0)), (3, .ref (ck_ad G 21 0)), (4, .ref (ck_ad G 22 0)), (5, .int x5)]) hx hb dL_law_1297 hl (by decide) rfl (fun ls hl => ?_)
  refine lv_aload_n hx hb dL_law_1299 rfl (lv_at hl 4 rfl) ?_
  refine ck_callVi (rest := []) ⟨hx, hb, hml, hown, hts⟩ hw (hM 10 (by decide) (by decide)) rfl rfl (ct_X7_thrown l G hM h) (cwV 0 hts gT_X7_thrown rfl rfl rfl (by decide +kernel) ⟨(Nat.le_of_ble_eq_true rfl), (Nat.le_of_ble_eq_true rfl)⟩) rfl hl.1 rfl (Nat.le_of_ble_eq_true rfl) dL_law_1300 ⟨show c0 + 2 ≤ 600128 by omega, show w0 + 12 ≤ 7301064 by omega⟩ (fun x_10 σ9 H locs h hw => ?_)
  refine lv_iload hx hb dL_law_1303 (lv_at hl 1 rfl) ?_
  obtain ⟨hA, hB⟩ := h
  refine lv_icmp_eq (tgt := 1310) hx hb dL_law_1305 (by decide) (fun c11 => ?_) (fun c11 => ?_)
  · have h := hA c11
    refine lv_iload hx hb dL_law_1310 (lv_at hl 1 rfl) ?_
    obtain ⟨hA, hB⟩ := h
    refine lv_if_ne (tgt := 1327) hx hb dL_law_1312 (by decide) (fun c12 => ?_) (fun c12 => ?_)
    · have h := hA c12
      exact wk_law_1327 C hC hM hO21 hO22 hc0 hw0 hK h hw (lv_sub hl [2, 3, 4, 5, 6, 7] rfl)
    · have h := hB c12
      refine lv_aload_n hx hb dL_law_1315 rfl (lv_at hl 5 rfl) ?_
      refine lv_iconst (v := 0) hx hb dL_law_1316 (by decide) ?_
      obtain ⟨n13, h⟩ := h
      refine ck_lald hx hb hw hO21 rfl n13 dL_law_1317 ?_
      refine lv_iload hx hb dL_law_1318 (lv_at hl 0 rfl) ?_
      refine lv_i2l hx hb dL_law_1320 rfl ?_
      refine W.lcmp hx hb dL_law_1321 ?_
      obtain ⟨hA, hB⟩ := h
      refine lv_if_eq (tgt := 1327) hx hb dL_law_1322 (by decide) (fun c14 => ?_) (fun c14 => ?_)
      · have h := hA c14
        exact wk_law_1327 C hC hM hO21 hO22 hc0 hw0 hK h hw (lv_sub hl [2, 3, 4, 5, 6, 7] rfl)
      · have h := hB c14
        refine lv_iconst (v := 0) hx hb dL_law_1325 (by decide) ?_
        exact h.elim
  · have h := hB c11
    refine lv_iconst (v := 0) hx hb dL_law_1308 (by decide) ?_
    exact h.elim
set_option maxHeartbeats 4000000 in
set_option maxRecDepth 100000 in
theorem wk_law_1371 {p : Program} {l : Launch} {e : Env} {s : State} {m : MethodId} {args : Array Value} {below : List Frame} {meth : Method} {c : Code} {G : ck_G} {b L : Nat} {xs : Nat → Int32} {Q : State → Prop} {c0 w0 : Nat} (C : ck_LX p l s m meth c args b L xs G) (hC : ck_inC G) (hM : ck_inM G) (hO21 : (21, 0) ∈ ck_Ls G) (hO22 : (22, 0) ∈ ck_Ls G) (hc0 : c0 + 20 ≤ 600128) (hw0 : w0 + 200 ≤ 7301064) {K : ck_S → Int32 → Prop} (hK : ∀ (σ : ck_S) (x5 : Int32) (H : Heap) (locs : List Loc) (ls : Array Slot), K σ x5 → ck_H G s H locs σ → lv_has ls 9 [(0, .ref b), (1, .ref (ck_ad G 0 0)), (2, .ref (ck_ad G 10 0)), (3, .ref (ck_ad G 21 0)), (4, .ref (ck_ad G 22 0)), (5, .int x5)] → W p l e room_1 s m args below meth c H locs (c0 + 20) (w0 + 200) Q (F0 m 1534 ls [])) {σ : ck_S} {x5 : Int32} {H : Heap} {locs : List Loc} {ls : Array Slot} (h : sp_law_1371 (ck_nc G) (ck_nb G) xs L K σ x5) (hw : ck_H G s H locs σ) (hl : lv_has ls 9 [(0, .ref b), (1, .ref (ck_ad G 0 0)), (2, .ref (ck_ad G 10 0)), (3, .ref (ck_ad G 21 0)), (4, .ref (ck_ad G 22 0)), (5, .int x5)]) : W p l e room_1 s m args below meth c H locs (c0 + 1) (w0 + 6) Q (F0 m 1371 ls []) := by
  obtain ⟨hx, hb, hr, hml, hown, hts, hlocks, hlt, hE, hX, hbl, hbA⟩ := id C
  unfold sp_law_1371 at h
  refine lv_goto (tgt := 1534) hx hb dL_law_1371 (by decide) ?_
  refine W.widen (k := c0 + 20) (n := w0 + 200) (show c0 + 1 ≤ c0 + 20 by omega) (show w0 + 6 ≤ w0 + 200 by omega) ?_
  exact hK _ _ _ _ _ h hw (lv_sub hl [0, 1, 2, 3, 4, 5] rfl)
set_option maxHeartbeats 4000000 in
set_option maxRecDepth 100000 in
theorem wk_law_1330 {p : Program} {l : Launch} {e : Env} {s : State} {m : MethodId} {args : Array Value} {below : List Frame} {meth : Method} {c : Code} {G : ck_G} {b L : Nat} {xs : Nat → Int32} {Q : State → Prop} {c0 w0 : Nat} (C : ck_LX p l s m meth c args b L xs G) (hC : ck_inC G) (hM : ck_inM G) (hO21 : (21, 0) ∈ ck_Ls G) (hO22 : (22, 0) ∈ ck_Ls G) (hc0 : c0 + 20 ≤ 600128) (hw0 : w0 + 200 ≤ 7301064) {K : ck_S → Int32 → Prop} (hK : ∀ (σ : ck_S) (x5 : Int32) (H : Heap) (locs : List Loc) (ls : Array Slot), K σ x5 → ck_H G s H locs σ → lv_has ls 9 [(0, .ref b), (1, .ref (ck_ad G 0 0)), (2, .ref (ck_ad G 10 0)), (3, .ref (ck_ad G 21 0)), (4, .ref (ck_ad G 22 0)), (5, .int x5)] → W p l e room_1 s m args below meth c H locs (c0 + 20) (w0 + 200) Q (F0 m 1534 ls [])) {σ : ck_S} {x5 : Int32} {H : Heap} {locs : List Loc} {ls : Array Slot} (h : sp_law_1330 (ck_nc G) (ck_nb G) xs L K σ x5) (hw : ck_H G s H locs σ) (hl : lv_has ls 9 [(0, .ref b), (1, .ref (ck_ad G 0 0)), (2, .ref (ck_ad G 10 0)), (3, .ref (ck_ad G 21 0)), (4, .ref (ck_ad G 22 0)), (5, .int x5)]) : W p l e room_1 s m args below meth c H locs (c0 + 0) (w0 + 0) Q (F0 m 1330 ls []) := by
  obtain ⟨hx, hb, hr, hml, hown, hts, hlocks, hlt, hE, hX, hbl, hbA⟩ := id C
  unfold sp_law_1330 at h
  refine lv_aload_n hx hb dL_law_1330 rfl (lv_at hl 1 rfl) ?_
  refine lv_aload_n hx hb dL_law_1331 rfl (lv_at hl 3 rfl) ?_
  refine ck_wcallSi (rest := []) ⟨hx, hb, hml, hown, hts⟩ hw hE (ct_L_faults l hlt G hO21 hC h) (vx_cwSW 2 hts gT_L_faults rfl rfl rfl (by decide +kernel) ⟨(Nat.le_of_ble_eq_true rfl), (Nat.le_of_ble_eq_true rfl)⟩) rfl hl.1 rfl (Nat.le_of_ble_eq_true rfl) dL_law_1332 ⟨show c0 + 1 ≤ 600128 by omega, show w0 + 6 ≤ 7301064 by omega⟩ (fun x_2 σ1 H locs h hw => ?_)
  refine lv_istore (lv' := [(6, .int x_2), (0, .ref b), (1, .ref (ck_ad G 0 0)), (2, .ref (ck_ad G 10 0)), (3, .ref (ck_ad G 21 0)), (4, .ref (ck_ad G 22 0)), (5, .int x5)]) hx hb dL_law_1335 hl (by decide) rfl (fun ls hl => ?_)
  refine lv_aload_n hx hb dL_law_1337 rfl (lv_at hl 3 rfl) ?_
  refine ck_callVi (rest := []) ⟨hx, hb, hml, hown, hts⟩ hw (hM 10 (by decide) (by decide)) rfl rfl (ct_X7_faults l G hM h) (cwV 0 hts gT_X7_faults rfl rfl rfl (by decide +kernel) ⟨(Nat.le_of_ble_eq_true rfl), (Nat.le_of_ble_eq_true rfl)⟩) rfl hl.1 rfl (Nat.le_of_ble_eq_true rfl) dL_law_1338 ⟨show c0 + 1 ≤ 600128 by omega, show w0 + 6 ≤ 7301064 by omega⟩ (fun x_4 σ3 H locs h hw => ?_)
  refine lv_istore (lv' := [(7, .int x_4), (6, .int x_2), (0, .ref b), (1, .ref (ck_ad G 0 0)), (2, .ref (ck_ad G 10 0)), (3, .ref (ck_ad G 21 0)), (4, .ref (ck_ad G 22 0)), (5, .int x5)]) hx hb dL_law_1341 hl (by decide) rfl (fun ls hl => ?_)
  refine lv_aload_n hx hb dL_law_1343 rfl (lv_at hl 4 rfl) ?_
  refine ck_callVi (rest := []) ⟨hx, hb, hml, hown, hts⟩ hw (hM 10 (by decide) (by decide)) rfl rfl (ct_X7_thrown l G hM h) (cwV 0 hts gT_X7_thrown rfl rfl rfl (by decide +kernel) ⟨(Nat.le_of_ble_eq_true rfl), (Nat.le_of_ble_eq_true rfl)⟩) rfl hl.1 rfl (Nat.le_of_ble_eq_true rfl) dL_law_1344 ⟨show c0 + 1 ≤ 600128 by omega, show w0 + 6 ≤ 7301064 by omega⟩ (fun x_6 σ5 H locs h hw => ?_)
  refine lv_iload hx hb dL_law_1347 (lv_at hl 1 rfl) ?_
  obtain ⟨hA, hB⟩ := h
  refine lv_icmp_eq (tgt := 1354) hx hb dL_law_1349 (by decide) (fun c7 => ?_) (fun c7 => ?_)
  · have h := hA c7
    refine lv_iload hx hb dL_law_1354 (lv_at hl 1 rfl) ?_
    obtain ⟨hA, hB⟩ := h
    refine lv_if_ne (tgt := 1371) hx hb dL_law_1356 (by decide) (fun c8 => ?_) (fun c8 => ?_)
    · have h := hA c8
      exact wk_law_1371 C hC hM hO21 hO22 hc0 hw0 hK h hw (lv_sub hl [2, 3, 4, 5, 6, 7] rfl)
    · have h := hB c8
      refine lv_aload_n hx hb dL_law_1359 rfl (lv_at hl 5 rfl) ?_
      refine lv_iconst (v := 0) hx hb dL_law_1360 (by decide) ?_
      obtain ⟨n9, h⟩ := h
      refine ck_lald hx hb hw hO21 rfl n9 dL_law_1361 ?_
      refine lv_iload hx hb dL_law_1362 (lv_at hl 0 rfl) ?_
      refine lv_i2l hx hb dL_law_1364 rfl ?_
      refine W.lcmp hx hb dL_law_1365 ?_
      obtain ⟨hA, hB⟩ := h
      refine lv_if_eq (tgt := 1371) hx hb dL_law_1366 (by decide) (fun c10 => ?_) (fun c10 => ?_)
      · have h := hA c10
        exact wk_law_1371 C hC hM hO21 hO22 hc0 hw0 hK h hw (lv_sub hl [2, 3, 4, 5, 6, 7] rfl)
      · have h := hB c10
        refine lv_iconst (v := 0) hx hb dL_law_1369 (by decide) ?_
        exact h.elim
  · have h := hB c7
    refine lv_iconst (v := 0) hx hb dL_law_1352 (by decide) ?_
    exact h.elim
set_option maxHeartbeats 4000000 in
set_option maxRecDepth 100000 in
theorem wk_law_1427 {p : Program} {l : Launch} {e : Env} {s : State} {m : MethodId} {args : Array Value} {below : List Frame} {meth : Method} {c : Code} {G : ck_G} {b L : Nat} {xs : Nat → Int32} {Q : State → Prop} {c0 w0 : Nat} (C : ck_LX p l s m meth c args b L xs G) (hC : ck_inC G) (hM : ck_inM G) (hO21 : (21, 0) ∈ ck_Ls G) (hO22 : (22, 0) ∈ ck_Ls G) (hc0 : c0 + 20 ≤ 600128) (hw0 : w0 + 200 ≤ 7301064) {K : ck_S → Int32 → Prop} (hK : ∀ (σ : ck_S) (x5 : Int32) (H : Heap) (locs : List Loc) (ls : Array Slot), K σ x5 → ck_H G s H locs σ → lv_has ls 9 [(0, .ref b), (1, .ref (ck_ad G 0 0)), (2, .ref (ck_ad G 10 0)), (3, .ref (ck_ad G 21 0)), (4, .ref (ck_ad G 22 0)), (5, .int x5)] → W p l e room_1 s m args below meth c H locs (c0 + 20) (w0 + 200) Q (F0 m 1534 ls [])) {σ : ck_S} {x5 : Int32} {H : Heap} {locs : List Loc} {ls : Array Slot} (h : sp_law_1427 (ck_nc G) (ck_nb G) xs L K σ x5) (hw : ck_H G s H locs σ) (hl : lv_has ls 9 [(0, .ref b), (1, .ref (ck_ad G 0 0)), (2, .ref (ck_ad G 10 0)), (3, .ref (ck_ad G 21 0)), (4, .ref (ck_ad G 22 0)), (5, .int x5)]) : W p l e room_1 s m args below meth c H locs (c0 + 2) (w0 + 12) Q (F0 m 1427 ls []) := by
  obtain ⟨hx, hb, hr, hml, hown, hts, hlocks, hlt, hE, hX, hbl, hbA⟩ := id C
  unfold sp_law_1427 at h
  refine lv_goto (tgt := 1534) hx hb dL_law_1427 (by decide) ?_
  refine W.widen (k := c0 + 20) (n := w0 + 200) (show c0 + 2 ≤ c0 + 20 by omega) (show w0 + 12 ≤ w0 + 200 by omega) ?_
  exact hK _ _ _ _ _ h hw (lv_sub hl [0, 1, 2, 3, 4, 5] rfl)
set_option maxHeartbeats 4000000 in
set_option maxRecDepth 100000 in
theorem wk_law_1374 {p : Program} {l : Launch} {e : Env} {s : State} {m : MethodId} {args : Array Value} {below : List Frame} {meth : Method} {c : Code} {G : ck_G} {b L : Nat} {xs : Nat → Int32} {Q : State → Prop} {c0 w0 : Nat} (C : ck_LX p l s m meth c args b L xs G) (hC : ck_inC G) (hM : ck_inM G) (hO21 : (21, 0) ∈ ck_Ls G) (hO22 : (22, 0) ∈ ck_Ls G) (hc0 : c0 + 20 ≤ 600128) (hw0 : w0 + 200 ≤ 7301064) {K : ck_S → Int32 → Prop} (hK : ∀ (σ : ck_S) (x5 : Int32) (H : Heap) (locs : List Loc) (ls : Array Slot), K σ x5 → ck_H G s H locs σ → lv_has ls 9 [(0, .ref b), (1, .ref (ck_ad G 0 0)), (2, .ref (ck_ad G 10 0)), (3, .ref (ck_ad G 21 0)), (4, .ref (ck_ad G 22 0)), (5, .int x5)] → W p l e room_1 s m args below meth c H locs (c0 + 20) (w0 + 200) Q (F0 m 1534 ls [])) {σ : ck_S} {x5 : Int32} {H : Heap} {locs : List Loc} {ls : Array Slot} (h : sp_law_1374 (ck_nc G) (ck_nb G) xs L K σ x5) (hw : ck_H G s H locs σ) (hl : lv_has ls 9 [(0, .ref b), (1, .ref (ck_ad G 0 0)), (2, .ref (ck_ad G 10 0)), (3, .ref (ck_ad G 21 0)), (4, .ref (ck_ad G 22 0)), (5, .int x5)]) : W p l e room_1 s m args below meth c H locs (c0 + 0) (w0 + 0) Q (F0 m 1374 ls []) := by
  obtain ⟨hx, hb, hr, hml, hown, hts, hlocks, hlt, hE, hX, hbl, hbA⟩ := id C
  unfold sp_law_1374 at h
  refine lv_aload_n hx hb dL_law_1374 rfl (lv_at hl 1 rfl) ?_
  refine lv_aload_n hx hb dL_law_1375 rfl (lv_at hl 0 rfl) ?_
  refine lv_iload hx hb dL_law_1376 (lv_at hl 5 rfl) ?_
  refine lv_iconst (v := 1) hx hb dL_law_1378 (by decide) ?_
  refine lv_iadd hx hb dL_law_1379 ?_
  refine lv_topi (fun x_1 ex_1 => ?_)
  have h := h x_1 ex_1
  obtain ⟨n2, h⟩ := h
  refine va_sld hx hb hX hbl hbA hw.2.2.2 n2 dL_law_1380 ?_
  refine lv_aload_n hx hb dL_law_1381 rfl (lv_at hl 3 rfl) ?_
  refine ck_wcallSi (rest := []) ⟨hx, hb, hml, hown, hts⟩ hw hE (ct_L_count l hlt G hO21 hC h) (vx_cwSW 3 hts gT_L_count rfl rfl rfl (by decide +kernel) ⟨(Nat.le_of_ble_eq_true rfl), (Nat.le_of_ble_eq_true rfl)⟩) rfl hl.1 rfl (Nat.le_of_ble_eq_true rfl) dL_law_1382 ⟨show c0 + 2 ≤ 600128 by omega, show w0 + 12 ≤ 7301064 by omega⟩ (fun x_4 σ3 H locs h hw => ?_)
  refine lv_istore (lv' := [(6, .int x_4), (0, .ref b), (1, .ref (ck_ad G 0 0)), (2, .ref (ck_ad G 10 0)), (3, .ref (ck_ad G 21 0)), (4, .ref (ck_ad G 22 0)), (5, .int x5)]) hx hb dL_law_1385 hl (by decide) rfl (fun ls hl => ?_)
  refine lv_aload_n hx hb dL_law_1387 rfl (lv_at hl 3 rfl) ?_
  refine lv_aload_n hx hb dL_law_1388 rfl (lv_at hl 1 rfl) ?_
  refine lv_iload hx hb dL_law_1389 (lv_at hl 6 rfl) ?_
  refine lv_iconst (v := 1) hx hb dL_law_1391 (by decide) ?_
  refine lv_iadd hx hb dL_law_1392 ?_
  refine lv_topi (fun x_5 ex_5 => ?_)
  have h := h x_5 ex_5
  obtain ⟨n6, h⟩ := h
  refine va_sld hx hb hX hbl hbA hw.2.2.2 n6 dL_law_1393 ?_
  refine ck_callVi (rest := []) ⟨hx, hb, hml, hown, hts⟩ hw (hM 10 (by decide) (by decide)) rfl rfl (ct_X7_count l G hM h) (cwV 1 hts gT_X7_count rfl rfl rfl (by decide +kernel) ⟨(Nat.le_of_ble_eq_true rfl), (Nat.le_of_ble_eq_true rfl)⟩) rfl hl.1 rfl (Nat.le_of_ble_eq_true rfl) dL_law_1394 ⟨show c0 + 2 ≤ 600128 by omega, show w0 + 12 ≤ 7301064 by omega⟩ (fun x_8 σ7 H locs h hw => ?_)
  refine lv_istore (lv' := [(7, .int x_8), (6, .int x_4), (0, .ref b), (1, .ref (ck_ad G 0 0)), (2, .ref (ck_ad G 10 0)), (3, .ref (ck_ad G 21 0)), (4, .ref (ck_ad G 22 0)), (5, .int x5)]) hx hb dL_law_1397 hl (by decide) rfl (fun ls hl => ?_)
  refine lv_aload_n hx hb dL_law_1399 rfl (lv_at hl 4 rfl) ?_
  refine ck_callVi (rest := []) ⟨hx, hb, hml, hown, hts⟩ hw (hM 10 (by decide) (by decide)) rfl rfl (ct_X7_thrown l G hM h) (cwV 0 hts gT_X7_thrown rfl rfl rfl (by decide +kernel) ⟨(Nat.le_of_ble_eq_true rfl), (Nat.le_of_ble_eq_true rfl)⟩) rfl hl.1 rfl (Nat.le_of_ble_eq_true rfl) dL_law_1400 ⟨show c0 + 2 ≤ 600128 by omega, show w0 + 12 ≤ 7301064 by omega⟩ (fun x_10 σ9 H locs h hw => ?_)
  refine lv_iload hx hb dL_law_1403 (lv_at hl 1 rfl) ?_
  obtain ⟨hA, hB⟩ := h
  refine lv_icmp_eq (tgt := 1410) hx hb dL_law_1405 (by decide) (fun c11 => ?_) (fun c11 => ?_)
  · have h := hA c11
    refine lv_iload hx hb dL_law_1410 (lv_at hl 1 rfl) ?_
    obtain ⟨hA, hB⟩ := h
    refine lv_if_ne (tgt := 1427) hx hb dL_law_1412 (by decide) (fun c12 => ?_) (fun c12 => ?_)
    · have h := hA c12
      exact wk_law_1427 C hC hM hO21 hO22 hc0 hw0 hK h hw (lv_sub hl [2, 3, 4, 5, 6, 7] rfl)
    · have h := hB c12
      refine lv_aload_n hx hb dL_law_1415 rfl (lv_at hl 5 rfl) ?_
      refine lv_iconst (v := 0) hx hb dL_law_1416 (by decide) ?_
      obtain ⟨n13, h⟩ := h
      refine ck_lald hx hb hw hO21 rfl n13 dL_law_1417 ?_
      refine lv_iload hx hb dL_law_1418 (lv_at hl 0 rfl) ?_
      refine lv_i2l hx hb dL_law_1420 rfl ?_
      refine W.lcmp hx hb dL_law_1421 ?_
      obtain ⟨hA, hB⟩ := h
      refine lv_if_eq (tgt := 1427) hx hb dL_law_1422 (by decide) (fun c14 => ?_) (fun c14 => ?_)
      · have h := hA c14
        exact wk_law_1427 C hC hM hO21 hO22 hc0 hw0 hK h hw (lv_sub hl [2, 3, 4, 5, 6, 7] rfl)
      · have h := hB c14
        refine lv_iconst (v := 0) hx hb dL_law_1425 (by decide) ?_
        exact h.elim
  · have h := hB c11
    refine lv_iconst (v := 0) hx hb dL_law_1408 (by decide) ?_
    exact h.elim
set_option maxHeartbeats 4000000 in
set_option maxRecDepth 100000 in
theorem wk_law_1483 {p : Program} {l : Launch} {e : Env} {s : State} {m : MethodId} {args : Array Value} {below : List Frame} {meth : Method} {c : Code} {G : ck_G} {b L : Nat} {xs : Nat → Int32} {Q : State → Prop} {c0 w0 : Nat} (C : ck_LX p l s m meth c args b L xs G) (hC : ck_inC G) (hM : ck_inM G) (hO21 : (21, 0) ∈ ck_Ls G) (hO22 : (22, 0) ∈ ck_Ls G) (hc0 : c0 + 20 ≤ 600128) (hw0 : w0 + 200 ≤ 7301064) {K : ck_S → Int32 → Prop} (hK : ∀ (σ : ck_S) (x5 : Int32) (H : Heap) (locs : List Loc) (ls : Array Slot), K σ x5 → ck_H G s H locs σ → lv_has ls 9 [(0, .ref b), (1, .ref (ck_ad G 0 0)), (2, .ref (ck_ad G 10 0)), (3, .ref (ck_ad G 21 0)), (4, .ref (ck_ad G 22 0)), (5, .int x5)] → W p l e room_1 s m args below meth c H locs (c0 + 20) (w0 + 200) Q (F0 m 1534 ls [])) {σ : ck_S} {x5 : Int32} {H : Heap} {locs : List Loc} {ls : Array Slot} (h : sp_law_1483 (ck_nc G) (ck_nb G) xs L K σ x5) (hw : ck_H G s H locs σ) (hl : lv_has ls 9 [(0, .ref b), (1, .ref (ck_ad G 0 0)), (2, .ref (ck_ad G 10 0)), (3, .ref (ck_ad G 21 0)), (4, .ref (ck_ad G 22 0)), (5, .int x5)]) : W p l e room_1 s m args below meth c H locs (c0 + 1) (w0 + 6) Q (F0 m 1483 ls []) := by
  obtain ⟨hx, hb, hr, hml, hown, hts, hlocks, hlt, hE, hX, hbl, hbA⟩ := id C
  unfold sp_law_1483 at h
  refine lv_goto (tgt := 1534) hx hb dL_law_1483 (by decide) ?_
  refine W.widen (k := c0 + 20) (n := w0 + 200) (show c0 + 1 ≤ c0 + 20 by omega) (show w0 + 6 ≤ w0 + 200 by omega) ?_
  exact hK _ _ _ _ _ h hw (lv_sub hl [0, 1, 2, 3, 4, 5] rfl)
set_option maxHeartbeats 4000000 in
set_option maxRecDepth 100000 in
theorem wk_law_1430 {p : Program} {l : Launch} {e : Env} {s : State} {m : MethodId} {args : Array Value} {below : List Frame} {meth : Method} {c : Code} {G : ck_G} {b L : Nat} {xs : Nat → Int32} {Q : State → Prop} {c0 w0 : Nat} (C : ck_LX p l s m meth c args b L xs G) (hC : ck_inC G) (hM : ck_inM G) (hO21 : (21, 0) ∈ ck_Ls G) (hO22 : (22, 0) ∈ ck_Ls G) (hc0 : c0 + 20 ≤ 600128) (hw0 : w0 + 200 ≤ 7301064) {K : ck_S → Int32 → Prop} (hK : ∀ (σ : ck_S) (x5 : Int32) (H : Heap) (locs : List Loc) (ls : Array Slot), K σ x5 → ck_H G s H locs σ → lv_has ls 9 [(0, .ref b), (1, .ref (ck_ad G 0 0)), (2, .ref (ck_ad G 10 0)), (3, .ref (ck_ad G 21 0)), (4, .ref (ck_ad G 22 0)), (5, .int x5)] → W p l e room_1 s m args below meth c H locs (c0 + 20) (w0 + 200) Q (F0 m 1534 ls [])) {σ : ck_S} {x5 : Int32} {H : Heap} {locs : List Loc} {ls : Array Slot} (h : sp_law_1430 (ck_nc G) (ck_nb G) xs L K σ x5) (hw : ck_H G s H locs σ) (hl : lv_has ls 9 [(0, .ref b), (1, .ref (ck_ad G 0 0)), (2, .ref (ck_ad G 10 0)), (3, .ref (ck_ad G 21 0)), (4, .ref (ck_ad G 22 0)), (5, .int x5)]) : W p l e room_1 s m args below meth c H locs (c0 + 0) (w0 + 0) Q (F0 m 1430 ls []) := by
  obtain ⟨hx, hb, hr, hml, hown, hts, hlocks, hlt, hE, hX, hbl, hbA⟩ := id C
  unfold sp_law_1430 at h
  refine lv_aload_n hx hb dL_law_1430 rfl (lv_at hl 1 rfl) ?_
  refine lv_aload_n hx hb dL_law_1431 rfl (lv_at hl 0 rfl) ?_
  refine lv_iload hx hb dL_law_1432 (lv_at hl 5 rfl) ?_
  refine lv_iconst (v := 1) hx hb dL_law_1434 (by decide) ?_
  refine lv_iadd hx hb dL_law_1435 ?_
  refine lv_topi (fun x_1 ex_1 => ?_)
  have h := h x_1 ex_1
  obtain ⟨n2, h⟩ := h
  refine va_sld hx hb hX hbl hbA hw.2.2.2 n2 dL_law_1436 ?_
  refine lv_aload_n hx hb dL_law_1437 rfl (lv_at hl 3 rfl) ?_
  refine ck_wcallSi (rest := []) ⟨hx, hb, hml, hown, hts⟩ hw hE (ct_L_journal l hlt G hO21 hC h) (vx_cwSW 3 hts gT_L_journal rfl rfl rfl (by decide +kernel) ⟨(Nat.le_of_ble_eq_true rfl), (Nat.le_of_ble_eq_true rfl)⟩) rfl hl.1 rfl (Nat.le_of_ble_eq_true rfl) dL_law_1438 ⟨show c0 + 1 ≤ 600128 by omega, show w0 + 6 ≤ 7301064 by omega⟩ (fun x_4 σ3 H locs h hw => ?_)
  refine lv_istore (lv' := [(6, .int x_4), (0, .ref b), (1, .ref (ck_ad G 0 0)), (2, .ref (ck_ad G 10 0)), (3, .ref (ck_ad G 21 0)), (4, .ref (ck_ad G 22 0)), (5, .int x5)]) hx hb dL_law_1441 hl (by decide) rfl (fun ls hl => ?_)
  refine lv_aload_n hx hb dL_law_1443 rfl (lv_at hl 3 rfl) ?_
  refine lv_aload_n hx hb dL_law_1444 rfl (lv_at hl 1 rfl) ?_
  refine lv_iload hx hb dL_law_1445 (lv_at hl 6 rfl) ?_
  refine lv_iconst (v := 1) hx hb dL_law_1447 (by decide) ?_
  refine lv_iadd hx hb dL_law_1448 ?_
  refine lv_topi (fun x_5 ex_5 => ?_)
  have h := h x_5 ex_5
  obtain ⟨n6, h⟩ := h
  refine va_sld hx hb hX hbl hbA hw.2.2.2 n6 dL_law_1449 ?_
  refine ck_callVi (rest := []) ⟨hx, hb, hml, hown, hts⟩ hw (hM 10 (by decide) (by decide)) rfl rfl (ct_X7_journal l G hM h) (cwV 1 hts gT_X7_journal rfl rfl rfl (by decide +kernel) ⟨(Nat.le_of_ble_eq_true rfl), (Nat.le_of_ble_eq_true rfl)⟩) rfl hl.1 rfl (Nat.le_of_ble_eq_true rfl) dL_law_1450 ⟨show c0 + 1 ≤ 600128 by omega, show w0 + 6 ≤ 7301064 by omega⟩ (fun x_8 σ7 H locs h hw => ?_)
  refine lv_istore (lv' := [(7, .int x_8), (6, .int x_4), (0, .ref b), (1, .ref (ck_ad G 0 0)), (2, .ref (ck_ad G 10 0)), (3, .ref (ck_ad G 21 0)), (4, .ref (ck_ad G 22 0)), (5, .int x5)]) hx hb dL_law_1453 hl (by decide) rfl (fun ls hl => ?_)
  refine lv_aload_n hx hb dL_law_1455 rfl (lv_at hl 4 rfl) ?_
  refine ck_callVi (rest := []) ⟨hx, hb, hml, hown, hts⟩ hw (hM 10 (by decide) (by decide)) rfl rfl (ct_X7_thrown l G hM h) (cwV 0 hts gT_X7_thrown rfl rfl rfl (by decide +kernel) ⟨(Nat.le_of_ble_eq_true rfl), (Nat.le_of_ble_eq_true rfl)⟩) rfl hl.1 rfl (Nat.le_of_ble_eq_true rfl) dL_law_1456 ⟨show c0 + 1 ≤ 600128 by omega, show w0 + 6 ≤ 7301064 by omega⟩ (fun x_10 σ9 H locs h hw => ?_)
  refine lv_iload hx hb dL_law_1459 (lv_at hl 1 rfl) ?_
  obtain ⟨hA, hB⟩ := h
  refine lv_icmp_eq (tgt := 1466) hx hb dL_law_1461 (by decide) (fun c11 => ?_) (fun c11 => ?_)
  · have h := hA c11
    refine lv_iload hx hb dL_law_1466 (lv_at hl 1 rfl) ?_
    obtain ⟨hA, hB⟩ := h
    refine lv_if_ne (tgt := 1483) hx hb dL_law_1468 (by decide) (fun c12 => ?_) (fun c12 => ?_)
    · have h := hA c12
      exact wk_law_1483 C hC hM hO21 hO22 hc0 hw0 hK h hw (lv_sub hl [2, 3, 4, 5, 6, 7] rfl)
    · have h := hB c12
      refine lv_aload_n hx hb dL_law_1471 rfl (lv_at hl 5 rfl) ?_
      refine lv_iconst (v := 0) hx hb dL_law_1472 (by decide) ?_
      obtain ⟨n13, h⟩ := h
      refine ck_lald hx hb hw hO21 rfl n13 dL_law_1473 ?_
      refine lv_iload hx hb dL_law_1474 (lv_at hl 0 rfl) ?_
      refine lv_i2l hx hb dL_law_1476 rfl ?_
      refine W.lcmp hx hb dL_law_1477 ?_
      obtain ⟨hA, hB⟩ := h
      refine lv_if_eq (tgt := 1483) hx hb dL_law_1478 (by decide) (fun c14 => ?_) (fun c14 => ?_)
      · have h := hA c14
        exact wk_law_1483 C hC hM hO21 hO22 hc0 hw0 hK h hw (lv_sub hl [2, 3, 4, 5, 6, 7] rfl)
      · have h := hB c14
        refine lv_iconst (v := 0) hx hb dL_law_1481 (by decide) ?_
        exact h.elim
  · have h := hB c11
    refine lv_iconst (v := 0) hx hb dL_law_1464 (by decide) ?_
    exact h.elim
set_option maxHeartbeats 4000000 in
set_option maxRecDepth 100000 in
theorem wk_law_1486 {p : Program} {l : Launch} {e : Env} {s : State} {m : MethodId} {args : Array Value} {below : List Frame} {meth : Method} {c : Code} {G : ck_G} {b L : Nat} {xs : Nat → Int32} {Q : State → Prop} {c0 w0 : Nat} (C : ck_LX p l s m meth c args b L xs G) (hC : ck_inC G) (hM : ck_inM G) (hO21 : (21, 0) ∈ ck_Ls G) (hO22 : (22, 0) ∈ ck_Ls G) (hc0 : c0 + 20 ≤ 600128) (hw0 : w0 + 200 ≤ 7301064) {K : ck_S → Int32 → Prop} (hK : ∀ (σ : ck_S) (x5 : Int32) (H : Heap) (locs : List Loc) (ls : Array Slot), K σ x5 → ck_H G s H locs σ → lv_has ls 9 [(0, .ref b), (1, .ref (ck_ad G 0 0)), (2, .ref (ck_ad G 10 0)), (3, .ref (ck_ad G 21 0)), (4, .ref (ck_ad G 22 0)), (5, .int x5)] → W p l e room_1 s m args below meth c H locs (c0 + 20) (w0 + 200) Q (F0 m 1534 ls [])) {σ : ck_S} {x5 : Int32} {H : Heap} {locs : List Loc} {ls : Array Slot} (h : sp_law_1486 (ck_nc G) (ck_nb G) xs L K σ x5) (hw : ck_H G s H locs σ) (hl : lv_has ls 9 [(0, .ref b), (1, .ref (ck_ad G 0 0)), (2, .ref (ck_ad G 10 0)), (3, .ref (ck_ad G 21 0)), (4, .ref (ck_ad G 22 0)), (5, .int x5)]) : W p l e room_1 s m args below meth c H locs (c0 + 0) (w0 + 0) Q (F0 m 1486 ls []) := by
  obtain ⟨hx, hb, hr, hml, hown, hts, hlocks, hlt, hE, hX, hbl, hbA⟩ := id C
  unfold sp_law_1486 at h
  refine lv_aload_n hx hb dL_law_1486 rfl (lv_at hl 1 rfl) ?_
  refine lv_aload_n hx hb dL_law_1487 rfl (lv_at hl 0 rfl) ?_
  refine lv_iload hx hb dL_law_1488 (lv_at hl 5 rfl) ?_
  refine lv_iconst (v := 1) hx hb dL_law_1490 (by decide) ?_
  refine lv_iadd hx hb dL_law_1491 ?_
  refine lv_topi (fun x_1 ex_1 => ?_)
  have h := h x_1 ex_1
  obtain ⟨n2, h⟩ := h
  refine va_sld hx hb hX hbl hbA hw.2.2.2 n2 dL_law_1492 ?_
  refine lv_aload_n hx hb dL_law_1493 rfl (lv_at hl 0 rfl) ?_
  refine lv_iload hx hb dL_law_1494 (lv_at hl 5 rfl) ?_
  refine lv_iconst (v := 2) hx hb dL_law_1496 (by decide) ?_
  refine lv_iadd hx hb dL_law_1497 ?_
  refine lv_topi (fun x_3 ex_3 => ?_)
  have h := h x_3 ex_3
  obtain ⟨n4, h⟩ := h
  refine va_sld hx hb hX hbl hbA hw.2.2.2 n4 dL_law_1498 ?_
  refine ck_wcallSi (rest := []) ⟨hx, hb, hml, hown, hts⟩ hw hE (ct_L_spoil l hlt G hC h) (vx_cwSW 3 hts gT_L_spoil rfl rfl rfl (by decide +kernel) ⟨(Nat.le_of_ble_eq_true rfl), (Nat.le_of_ble_eq_true rfl)⟩) rfl hl.1 rfl (Nat.le_of_ble_eq_true rfl) dL_law_1499 ⟨show c0 + 2 ≤ 600128 by omega, show w0 + 12 ≤ 7301064 by omega⟩ (fun x_6 σ5 H locs h hw => ?_)
  refine lv_istore (lv' := [(6, .int x_6), (0, .ref b), (1, .ref (ck_ad G 0 0)), (2, .ref (ck_ad G 10 0)), (3, .ref (ck_ad G 21 0)), (4, .ref (ck_ad G 22 0)), (5, .int x5)]) hx hb dL_law_1502 hl (by decide) rfl (fun ls hl => ?_)
  refine lv_aload_n hx hb dL_law_1504 rfl (lv_at hl 3 rfl) ?_
  refine lv_aload_n hx hb dL_law_1505 rfl (lv_at hl 1 rfl) ?_
  refine lv_iload hx hb dL_law_1506 (lv_at hl 6 rfl) ?_
  refine lv_iconst (v := 1) hx hb dL_law_1508 (by decide) ?_
  refine lv_iadd hx hb dL_law_1509 ?_
  refine lv_topi (fun x_7 ex_7 => ?_)
  have h := h x_7 ex_7
  obtain ⟨n8, h⟩ := h
  refine va_sld hx hb hX hbl hbA hw.2.2.2 n8 dL_law_1510 ?_
  refine lv_aload_n hx hb dL_law_1511 rfl (lv_at hl 1 rfl) ?_
  refine lv_iload hx hb dL_law_1512 (lv_at hl 6 rfl) ?_
  refine lv_iconst (v := 2) hx hb dL_law_1514 (by decide) ?_
  refine lv_iadd hx hb dL_law_1515 ?_
  refine lv_topi (fun x_9 ex_9 => ?_)
  have h := h x_9 ex_9
  obtain ⟨n10, h⟩ := h
  refine va_sld hx hb hX hbl hbA hw.2.2.2 n10 dL_law_1516 ?_
  refine ck_callVv (rest := []) ⟨hx, hb, hml, hown, hts⟩ hw (hM 10 (by decide) (by decide)) rfl rfl (ct_X7_spoil l G hM h) (cwV 2 hts gT_X7_spoil rfl rfl rfl (by decide +kernel) ⟨(Nat.le_of_ble_eq_true rfl), (Nat.le_of_ble_eq_true rfl)⟩) rfl hl.1 rfl (Nat.le_of_ble_eq_true rfl) dL_law_1517 ⟨show c0 + 2 ≤ 600128 by omega, show w0 + 12 ≤ 7301064 by omega⟩ (fun σ11 H locs h hw => ?_)
  refine lv_aload_n hx hb dL_law_1520 rfl (lv_at hl 3 rfl) ?_
  refine ck_callVi (rest := []) ⟨hx, hb, hml, hown, hts⟩ hw (hM 10 (by decide) (by decide)) rfl rfl (ct_X7_thrown l G hM h) (cwV 0 hts gT_X7_thrown rfl rfl rfl (by decide +kernel) ⟨(Nat.le_of_ble_eq_true rfl), (Nat.le_of_ble_eq_true rfl)⟩) rfl hl.1 rfl (Nat.le_of_ble_eq_true rfl) dL_law_1521 ⟨show c0 + 2 ≤ 600128 by omega, show w0 + 12 ≤ 7301064 by omega⟩ (fun x_14 σ13 H locs h hw => ?_)
  refine lv_iload hx hb dL_law_1524 (lv_at hl 0 rfl) ?_
  obtain ⟨hA, hB⟩ := h
  refine lv_icmp_eq (tgt := 1531) hx hb dL_law_1526 (by decide) (fun c15 => ?_) (fun c15 => ?_)
  · have h := hA c15
    refine lv_goto (tgt := 1534) hx hb dL_law_1531 (by decide) ?_
    refine W.widen (k := c0 + 20) (n := w0 + 200) (show c0 + 2 ≤ c0 + 20 by omega) (show w0 + 12 ≤ w0 + 200 by omega) ?_
    exact hK _ _ _ _ _ h hw (lv_sub hl [1, 2, 3, 4, 5, 6] rfl)
  · have h := hB c15
    refine lv_iconst (v := 0) hx hb dL_law_1529 (by decide) ?_
    exact h.elim
