/-! ===== the reference: reading a statement ===== -/
def grp (x : Int32) : List Nat := if x = nI 99 then [1, 1, 1, 1] else if x = nI 101 then [2, 1, 1] else if x = nI 115 ∨ x = nI 116 then [1, 1] else if x = nI 100 then [1] else if x = nI 104 then [2] else []
def rdG (H : Nat → Int32) : List Nat → Nat → Bool × Nat × List Nat
  | [], p => if H p = nI 59 then (true, p + 1, []) else (false, p, [])
  | g :: gs, p => if (rd H g p 0).1 = true then ((rdG H gs (rd H g p 0).2.1).1, (rdG H gs (rd H g p 0).2.1).2.1, (rd H g p 0).2.2 :: (rdG H gs (rd H g p 0).2.1).2.2) else (false, (rd H g p 0).2.1, [])
def rdS (H : Nat → Int32) (p : Nat) : Bool × Nat × List Nat := if grp (H p) = [] then (false, p, []) else rdG H (grp (H p)) (p + 1)
def S_X11_readsStatement (h : AH) (K : Int32 → AH → Prop) : Prop := ∃ E sz p a, txt h E sz p a ∧ p ≤ 110 ∧ ∀ h', keepN h h' → txt h' E sz (rdS (hb E sz) p).2.1 a → ((rdS (hb E sz) p).1 = true → ∀ j, j < (rdS (hb E sz) p).2.2.length → h'.1 19 0 j = nI ((rdS (hb E sz) p).2.2.getD j 0)) → K (if (rdS (hb E sz) p).1 = true then nI 1 else nI 0) h'
def T_X11_readsStatement : List AV → AH → (Int32 → AH → Prop) → Prop := fun as h K => match as with
  | [.inr (.inr (.inl q0))] => tif (Nat.beq q0.1 15 && Nat.beq q0.2 0) (S_X11_readsStatement h K)
  | _ => False

def M_X11_readsStatement : MI := (RX11, cX11_readsStatement, 3, [(0, .aload_n 0, []), (1, .invokevirtual 112, []), (4, .istore_n 1, []), (5, .aload_n 0, []), (6, .dup, []), (7, .getfield 102, []), (10, .iconst 1, []), (11, .iadd, []), (12, .putfield 102, []), (15, .iload_n 1, []), (16, .tableswitch 216 99 116 #[88, 196, 133, 216, 216, 206, 216, 216, 216, 216, 216, 216, 216, 216, 216, 216, 169, 169], [232, 104, 212, 149, 232, 232, 222, 232, 232, 232, 232, 232, 232, 232, 232, 232, 232, 185, 185]), (104, .aload_n 0, []), (105, .iconst 0, []), (106, .iconst 1, []), (107, .invokevirtual 116, []), (110, .ifCond .eq 34, [144]), (113, .aload_n 0, []), (114, .iconst 1, []), (115, .iconst 1, []), (116, .invokevirtual 116, []), (119, .ifCond .eq 25, [144]), (122, .aload_n 0, []), (123, .iconst 2, []), (124, .iconst 1, []), (125, .invokevirtual 116, []), (128, .ifCond .eq 16, [144]), (131, .aload_n 0, []), (132, .iconst 3, []), (133, .iconst 1, []), (134, .invokevirtual 116, []), (137, .ifCond .eq 7, [144]), (140, .iconst 1, []), (141, .goto 4, [145]), (144, .iconst 0, []), (145, .istore_n 2, []), (146, .goto 98, [244]), (149, .aload_n 0, []), (150, .iconst 0, []), (151, .iconst 2, []), (152, .invokevirtual 116, []), (155, .ifCond .eq 25, [180]), (158, .aload_n 0, []), (159, .iconst 1, []), (160, .iconst 1, []), (161, .invokevirtual 116, []), (164, .ifCond .eq 16, [180]), (167, .aload_n 0, []), (168, .iconst 2, []), (169, .iconst 1, []), (170, .invokevirtual 116, []), (173, .ifCond .eq 7, [180]), (176, .iconst 1, []), (177, .goto 4, [181]), (180, .iconst 0, []), (181, .istore_n 2, []), (182, .goto 62, [244]), (185, .aload_n 0, []), (186, .iconst 0, []), (187, .iconst 1, []), (188, .invokevirtual 116, []), (191, .ifCond .eq 16, [207]), (194, .aload_n 0, []), (195, .iconst 1, []), (196, .iconst 1, []), (197, .invokevirtual 116, []), (200, .ifCond .eq 7, [207]), (203, .iconst 1, []), (204, .goto 4, [208]), (207, .iconst 0, []), (208, .istore_n 2, []), (209, .goto 35, [244]), (212, .aload_n 0, []), (213, .iconst 0, []), (214, .iconst 1, []), (215, .invokevirtual 116, []), (218, .istore_n 2, []), (219, .goto 25, [244]), (222, .aload_n 0, []), (223, .iconst 0, []), (224, .iconst 2, []), (225, .invokevirtual 116, []), (228, .istore_n 2, []), (229, .goto 15, [244]), (232, .aload_n 0, []), (233, .dup, []), (234, .getfield 102, []), (237, .iconst 1, []), (238, .isub, []), (239, .putfield 102, []), (242, .iconst 0, []), (243, .ireturn, []), (244, .iload_n 2, []), (245, .ifCond .eq 12, [257]), (248, .aload_n 0, []), (249, .invokevirtual 112, []), (252, .bipush 59, []), (254, .if_icmp .eq 5, [259]), (257, .iconst 0, []), (258, .ireturn, []), (259, .aload_n 0, []), (260, .dup, []), (261, .getfield 102, []), (264, .iconst 1, []), (265, .iadd, []), (266, .putfield 102, []), (269, .iconst 1, []), (270, .ireturn, [])], [(102, (15, 6, 0, 0, 0))], [], [], [(336, (1, 1, 20, 0, 0, .inl T_X11_here)), (348, (3, 2, 45, 0, 0, .inl T_X11_readsNumber))], 2, 45, 0, 0)
theorem ok_X11_readsStatement : MOK M_X11_readsStatement := ⟨by decide +kernel, List.forall_mem_cons.mpr ⟨fl_RX11_102, fun _ h => absurd h List.not_mem_nil⟩, fun _ h => absurd h List.not_mem_nil, fun _ h => absurd h List.not_mem_nil, List.forall_mem_cons.mpr ⟨⟨Nat.le_of_ble_eq_true rfl, Nat.le_of_ble_eq_true rfl, cr_RX11_336⟩, List.forall_mem_cons.mpr ⟨⟨Nat.le_of_ble_eq_true rfl, Nat.le_of_ble_eq_true rfl, cr_RX11_348⟩, fun _ h => absurd h List.not_mem_nil⟩⟩⟩
set_option maxRecDepth 100000 in
theorem vc_X11_readsStatement {K : Int32 → AH → Prop} {h : AH}  (H : S_X11_here h (fun x2 h1 => (x2.toInt < 99 ∨ 116 < x2.toInt → AW M_X11_readsStatement (.inl (fun x u => (x = 0 ∨ x = 1) ∧ K x u)) 232 [some (aR 15 0), none, none] [] (wI h1 15 0 6 ((h1.1 15 0 6) + (nI 1))) 0 0) ∧ (x2 = nI 99 → AW M_X11_readsStatement (.inl (fun x u => (x = 0 ∨ x = 1) ∧ K x u)) 104 [some (aR 15 0), none, none] [] (wI h1 15 0 6 ((h1.1 15 0 6) + (nI 1))) 0 0) ∧ (x2 = nI 100 → AW M_X11_readsStatement (.inl (fun x u => (x = 0 ∨ x = 1) ∧ K x u)) 212 [some (aR 15 0), none, none] [] (wI h1 15 0 6 ((h1.1 15 0 6) + (nI 1))) 0 0) ∧ (x2 = nI 101 → AW M_X11_readsStatement (.inl (fun x u => (x = 0 ∨ x = 1) ∧ K x u)) 149 [some (aR 15 0), none, none] [] (wI h1 15 0 6 ((h1.1 15 0 6) + (nI 1))) 0 0) ∧ (x2 = nI 102 → AW M_X11_readsStatement (.inl (fun x u => (x = 0 ∨ x = 1) ∧ K x u)) 232 [some (aR 15 0), none, none] [] (wI h1 15 0 6 ((h1.1 15 0 6) + (nI 1))) 0 0) ∧ (x2 = nI 103 → AW M_X11_readsStatement (.inl (fun x u => (x = 0 ∨ x = 1) ∧ K x u)) 232 [some (aR 15 0), none, none] [] (wI h1 15 0 6 ((h1.1 15 0 6) + (nI 1))) 0 0) ∧ (x2 = nI 104 → AW M_X11_readsStatement (.inl (fun x u => (x = 0 ∨ x = 1) ∧ K x u)) 222 [some (aR 15 0), none, none] [] (wI h1 15 0 6 ((h1.1 15 0 6) + (nI 1))) 0 0) ∧ (x2 = nI 105 → AW M_X11_readsStatement (.inl (fun x u => (x = 0 ∨ x = 1) ∧ K x u)) 232 [some (aR 15 0), none, none] [] (wI h1 15 0 6 ((h1.1 15 0 6) + (nI 1))) 0 0) ∧ (x2 = nI 106 → AW M_X11_readsStatement (.inl (fun x u => (x = 0 ∨ x = 1) ∧ K x u)) 232 [some (aR 15 0), none, none] [] (wI h1 15 0 6 ((h1.1 15 0 6) + (nI 1))) 0 0) ∧ (x2 = nI 107 → AW M_X11_readsStatement (.inl (fun x u => (x = 0 ∨ x = 1) ∧ K x u)) 232 [some (aR 15 0), none, none] [] (wI h1 15 0 6 ((h1.1 15 0 6) + (nI 1))) 0 0) ∧ (x2 = nI 108 → AW M_X11_readsStatement (.inl (fun x u => (x = 0 ∨ x = 1) ∧ K x u)) 232 [some (aR 15 0), none, none] [] (wI h1 15 0 6 ((h1.1 15 0 6) + (nI 1))) 0 0) ∧ (x2 = nI 109 → AW M_X11_readsStatement (.inl (fun x u => (x = 0 ∨ x = 1) ∧ K x u)) 232 [some (aR 15 0), none, none] [] (wI h1 15 0 6 ((h1.1 15 0 6) + (nI 1))) 0 0) ∧ (x2 = nI 110 → AW M_X11_readsStatement (.inl (fun x u => (x = 0 ∨ x = 1) ∧ K x u)) 232 [some (aR 15 0), none, none] [] (wI h1 15 0 6 ((h1.1 15 0 6) + (nI 1))) 0 0) ∧ (x2 = nI 111 → AW M_X11_readsStatement (.inl (fun x u => (x = 0 ∨ x = 1) ∧ K x u)) 232 [some (aR 15 0), none, none] [] (wI h1 15 0 6 ((h1.1 15 0 6) + (nI 1))) 0 0) ∧ (x2 = nI 112 → AW M_X11_readsStatement (.inl (fun x u => (x = 0 ∨ x = 1) ∧ K x u)) 232 [some (aR 15 0), none, none] [] (wI h1 15 0 6 ((h1.1 15 0 6) + (nI 1))) 0 0) ∧ (x2 = nI 113 → AW M_X11_readsStatement (.inl (fun x u => (x = 0 ∨ x = 1) ∧ K x u)) 232 [some (aR 15 0), none, none] [] (wI h1 15 0 6 ((h1.1 15 0 6) + (nI 1))) 0 0) ∧ (x2 = nI 114 → AW M_X11_readsStatement (.inl (fun x u => (x = 0 ∨ x = 1) ∧ K x u)) 232 [some (aR 15 0), none, none] [] (wI h1 15 0 6 ((h1.1 15 0 6) + (nI 1))) 0 0) ∧ (x2 = nI 115 → AW M_X11_readsStatement (.inl (fun x u => (x = 0 ∨ x = 1) ∧ K x u)) 185 [some (aR 15 0), none, none] [] (wI h1 15 0 6 ((h1.1 15 0 6) + (nI 1))) 0 0) ∧ (x2 = nI 116 → AW M_X11_readsStatement (.inl (fun x u => (x = 0 ∨ x = 1) ∧ K x u)) 185 [some (aR 15 0), none, none] [] (wI h1 15 0 6 ((h1.1 15 0 6) + (nI 1))) 0 0) ∧ True)) : AW M_X11_readsStatement (.inl (fun x u => (x = 0 ∨ x = 1) ∧ K x u)) 0 [some (aR 15 0), none, none] [] h 0 0 := AW_go (cuts := [(104, [true, false, false]), (149, [true, false, false]), (185, [true, false, false]), (212, [true, false, false]), (222, [true, false, false]), (232, [true, false, false]), (244, [true, false, true])]) ok_X11_readsStatement 400 H
set_option maxRecDepth 100000 in
theorem vc_X11_readsStatement_104 {K : Int32 → AH → Prop} {h : AH}   (H : S_X11_readsNumber (nI 0) (nI 1) h (fun x2 h1 => ((x2 = 0) → AW M_X11_readsStatement (.inl (fun x u => (x = 0 ∨ x = 1) ∧ K x u)) 244 [some (aR 15 0), none, some (aI (nI 0))] [] h1 0 0) ∧ (¬ (x2 = 0) → S_X11_readsNumber (nI 1) (nI 1) h1 (fun x4 h3 => ((x4 = 0) → AW M_X11_readsStatement (.inl (fun x u => (x = 0 ∨ x = 1) ∧ K x u)) 244 [some (aR 15 0), none, some (aI (nI 0))] [] h3 0 0) ∧ (¬ (x4 = 0) → S_X11_readsNumber (nI 2) (nI 1) h3 (fun x6 h5 => ((x6 = 0) → AW M_X11_readsStatement (.inl (fun x u => (x = 0 ∨ x = 1) ∧ K x u)) 244 [some (aR 15 0), none, some (aI (nI 0))] [] h5 0 0) ∧ (¬ (x6 = 0) → S_X11_readsNumber (nI 3) (nI 1) h5 (fun x8 h7 => ((x8 = 0) → AW M_X11_readsStatement (.inl (fun x u => (x = 0 ∨ x = 1) ∧ K x u)) 244 [some (aR 15 0), none, some (aI (nI 0))] [] h7 0 0) ∧ (¬ (x8 = 0) → AW M_X11_readsStatement (.inl (fun x u => (x = 0 ∨ x = 1) ∧ K x u)) 244 [some (aR 15 0), none, some (aI (nI 1))] [] h7 0 0))))))))) : AW M_X11_readsStatement (.inl (fun x u => (x = 0 ∨ x = 1) ∧ K x u)) 104 [some (aR 15 0), none, none] [] h 0 0 := AW_go (cuts := [(104, [true, false, false]), (149, [true, false, false]), (185, [true, false, false]), (212, [true, false, false]), (222, [true, false, false]), (232, [true, false, false]), (244, [true, false, true])]) ok_X11_readsStatement 400 H
set_option maxRecDepth 100000 in
theorem vc_X11_readsStatement_149 {K : Int32 → AH → Prop} {h : AH}   (H : S_X11_readsNumber (nI 0) (nI 2) h (fun x2 h1 => ((x2 = 0) → AW M_X11_readsStatement (.inl (fun x u => (x = 0 ∨ x = 1) ∧ K x u)) 244 [some (aR 15 0), none, some (aI (nI 0))] [] h1 0 0) ∧ (¬ (x2 = 0) → S_X11_readsNumber (nI 1) (nI 1) h1 (fun x4 h3 => ((x4 = 0) → AW M_X11_readsStatement (.inl (fun x u => (x = 0 ∨ x = 1) ∧ K x u)) 244 [some (aR 15 0), none, some (aI (nI 0))] [] h3 0 0) ∧ (¬ (x4 = 0) → S_X11_readsNumber (nI 2) (nI 1) h3 (fun x6 h5 => ((x6 = 0) → AW M_X11_readsStatement (.inl (fun x u => (x = 0 ∨ x = 1) ∧ K x u)) 244 [some (aR 15 0), none, some (aI (nI 0))] [] h5 0 0) ∧ (¬ (x6 = 0) → AW M_X11_readsStatement (.inl (fun x u => (x = 0 ∨ x = 1) ∧ K x u)) 244 [some (aR 15 0), none, some (aI (nI 1))] [] h5 0 0))))))) : AW M_X11_readsStatement (.inl (fun x u => (x = 0 ∨ x = 1) ∧ K x u)) 149 [some (aR 15 0), none, none] [] h 0 0 := AW_go (cuts := [(104, [true, false, false]), (149, [true, false, false]), (185, [true, false, false]), (212, [true, false, false]), (222, [true, false, false]), (232, [true, false, false]), (244, [true, false, true])]) ok_X11_readsStatement 400 H
set_option maxRecDepth 100000 in
theorem vc_X11_readsStatement_185 {K : Int32 → AH → Prop} {h : AH}   (H : S_X11_readsNumber (nI 0) (nI 1) h (fun x2 h1 => ((x2 = 0) → AW M_X11_readsStatement (.inl (fun x u => (x = 0 ∨ x = 1) ∧ K x u)) 244 [some (aR 15 0), none, some (aI (nI 0))] [] h1 0 0) ∧ (¬ (x2 = 0) → S_X11_readsNumber (nI 1) (nI 1) h1 (fun x4 h3 => ((x4 = 0) → AW M_X11_readsStatement (.inl (fun x u => (x = 0 ∨ x = 1) ∧ K x u)) 244 [some (aR 15 0), none, some (aI (nI 0))] [] h3 0 0) ∧ (¬ (x4 = 0) → AW M_X11_readsStatement (.inl (fun x u => (x = 0 ∨ x = 1) ∧ K x u)) 244 [some (aR 15 0), none, some (aI (nI 1))] [] h3 0 0))))) : AW M_X11_readsStatement (.inl (fun x u => (x = 0 ∨ x = 1) ∧ K x u)) 185 [some (aR 15 0), none, none] [] h 0 0 := AW_go (cuts := [(104, [true, false, false]), (149, [true, false, false]), (185, [true, false, false]), (212, [true, false, false]), (222, [true, false, false]), (232, [true, false, false]), (244, [true, false, true])]) ok_X11_readsStatement 400 H
set_option maxRecDepth 100000 in
theorem vc_X11_readsStatement_212 {K : Int32 → AH → Prop} {h : AH}   (H : S_X11_readsNumber (nI 0) (nI 1) h (fun x2 h1 => AW M_X11_readsStatement (.inl (fun x u => (x = 0 ∨ x = 1) ∧ K x u)) 244 [some (aR 15 0), none, some (aI x2)] [] h1 0 0)) : AW M_X11_readsStatement (.inl (fun x u => (x = 0 ∨ x = 1) ∧ K x u)) 212 [some (aR 15 0), none, none] [] h 0 0 := AW_go (cuts := [(104, [true, false, false]), (149, [true, false, false]), (185, [true, false, false]), (212, [true, false, false]), (222, [true, false, false]), (232, [true, false, false]), (244, [true, false, true])]) ok_X11_readsStatement 400 H
set_option maxRecDepth 100000 in
theorem vc_X11_readsStatement_222 {K : Int32 → AH → Prop} {h : AH}   (H : S_X11_readsNumber (nI 0) (nI 2) h (fun x2 h1 => AW M_X11_readsStatement (.inl (fun x u => (x = 0 ∨ x = 1) ∧ K x u)) 244 [some (aR 15 0), none, some (aI x2)] [] h1 0 0)) : AW M_X11_readsStatement (.inl (fun x u => (x = 0 ∨ x = 1) ∧ K x u)) 222 [some (aR 15 0), none, none] [] h 0 0 := AW_go (cuts := [(104, [true, false, false]), (149, [true, false, false]), (185, [true, false, false]), (212, [true, false, false]), (222, [true, false, false]), (232, [true, false, false]), (244, [true, false, true])]) ok_X11_readsStatement 400 H
set_option maxRecDepth 100000 in
theorem vc_X11_readsStatement_232 {K : Int32 → AH → Prop} {h : AH}   (H : (((nI 0) = 0 ∨ (nI 0) = 1) ∧ K (nI 0) (wI h 15 0 6 ((h.1 15 0 6) - (nI 1))))) : AW M_X11_readsStatement (.inl (fun x u => (x = 0 ∨ x = 1) ∧ K x u)) 232 [some (aR 15 0), none, none] [] h 0 0 := AW_go (cuts := [(104, [true, false, false]), (149, [true, false, false]), (185, [true, false, false]), (212, [true, false, false]), (222, [true, false, false]), (232, [true, false, false]), (244, [true, false, true])]) ok_X11_readsStatement 400 H
set_option maxRecDepth 100000 in
theorem vc_X11_readsStatement_244 {K : Int32 → AH → Prop} {h : AH}  (l2 : Int32) (H : ((l2 = 0) → (((nI 0) = 0 ∨ (nI 0) = 1) ∧ K (nI 0) h)) ∧ (¬ (l2 = 0) → S_X11_here h (fun x2 h1 => ((x2 = (nI 59)) → (((nI 1) = 0 ∨ (nI 1) = 1) ∧ K (nI 1) (wI h1 15 0 6 ((h1.1 15 0 6) + (nI 1))))) ∧ (¬ (x2 = (nI 59)) → (((nI 0) = 0 ∨ (nI 0) = 1) ∧ K (nI 0) h1))))) : AW M_X11_readsStatement (.inl (fun x u => (x = 0 ∨ x = 1) ∧ K x u)) 244 [some (aR 15 0), none, some (aI l2)] [] h 0 0 := AW_go (cuts := [(104, [true, false, false]), (149, [true, false, false]), (185, [true, false, false]), (212, [true, false, false]), (222, [true, false, false]), (232, [true, false, false]), (244, [true, false, true])]) ok_X11_readsStatement 400 H

def nG (W0 W1 : AH → Prop) : List Nat → Nat → AH → Prop
  | [], _, h => W1 h
  | g :: gs, k, h => S_X11_readsNumber (nI k) (nI g) h (fun x h1 => (x = 0 → W0 h1) ∧ (¬ x = 0 → nG W0 W1 gs (k + 1) h1))
theorem nG_ok {E : Nat → Int32} {sz a : Nat} {h0 : AH} {K : Int32 → AH → Prop} : ∀ gs k acc p h, acc.length = k → k + gs.length ≤ 4 → (∀ g, g ∈ gs → g ≤ 2) → p + 2 * gs.length ≤ 140 → keepN h0 h → txt h E sz p a → (∀ j, j < k → h.1 19 0 j = nI (acc.getD j 0)) → (∀ h', keepN h0 h' → txt h' E sz (rdG (hb E sz) gs p).2.1 a → ((rdG (hb E sz) gs p).1 = true → ∀ j, j < (acc ++ (rdG (hb E sz) gs p).2.2).length → h'.1 19 0 j = nI ((acc ++ (rdG (hb E sz) gs p).2.2).getD j 0)) → K (if (rdG (hb E sz) gs p).1 = true then nI 1 else nI 0) h') → nG (fun h => AW M_X11_readsStatement (.inl (fun x u => (x = 0 ∨ x = 1) ∧ K x u)) 244 [some (aR 15 0), none, some (aI (nI 0))] [] h 0 0) (fun h => AW M_X11_readsStatement (.inl (fun x u => (x = 0 ∨ x = 1) ∧ K x u)) 244 [some (aR 15 0), none, some (aI (nI 1))] [] h 0 0) gs k h := by
  intro gs
  induction gs with
  | nil =>
    intro k acc p h hl hk hg hp kn ht ha kk
    refine vc_X11_readsStatement_244 (nI 1) ⟨fun q => absurd q (by decide), fun _ => ⟨E, sz, p, a, ht, ?_⟩⟩
    dsimp only
    unfold rdG at kk
    refine ⟨fun q => ⟨Or.inr (by decide), ?_⟩, fun q => ⟨Or.inl (by decide), ?_⟩⟩
    · rw [if_pos q] at kk
      rw [ht.1, nI_add]
      refine kk _ (keepN_tr kn keepN_6) (txt_k keepN_6 ht (wI_at _ _ _ _ _) (by show p + 1 ≤ 200; simp at hp; omega)) (fun _ j hj => ?_)
      rw [wI_nt (by omega)]
      dsimp only at hj ⊢
      rw [List.append_nil] at hj ⊢
      exact ha j (by omega)
    · rw [if_neg q] at kk
      exact kk h kn ht (fun z => absurd z (show ¬ false = true by decide))
  | cons g gs ih =>
    intro k acc p h hl hk hg hp kn ht ha kk
    simp only [List.length_cons] at hk hp
    have hg2 := hg g (List.mem_cons_self ..)
    refine ⟨E, sz, p, a, k, g, ht, by omega, by omega, rfl, hg2, rfl, fun h1 k1 t1 e1 f1 => ?_⟩
    have hrp := rd_p (H := hb E sz) g p 0
    unfold rdG at kk
    by_cases q : (rd (hb E sz) g p 0).1 = true
    · rw [if_pos q] at kk
      rw [if_pos q]
      refine ⟨fun z => absurd z (by decide), fun _ => ?_⟩
      refine ih (k + 1) (acc ++ [(rd (hb E sz) g p 0).2.2]) (rd (hb E sz) g p 0).2.1 h1 (by simp [hl]) (by omega) (fun x hx => hg x (List.mem_cons_of_mem _ hx)) (by omega) (keepN_tr kn k1) t1 (fun j hj => ?_) (fun h2 a1 a2 a3 => ?_)
      · by_cases z : j = k
        · subst z
          rw [e1, List.getD_eq_getElem?_getD, List.getElem?_append_right (by omega), hl]
          simp
        · rw [f1 j z, ha j (by omega), List.getD_eq_getElem?_getD, List.getD_eq_getElem?_getD, List.getElem?_append_left (by omega)]
      · have := kk h2 a1 a2
        rw [List.append_assoc] at a3
        exact this a3
    · rw [if_neg q] at kk
      rw [if_neg q]
      refine ⟨fun _ => ?_, fun z => absurd (by decide) z⟩
      exact vc_X11_readsStatement_244 (nI 0) ⟨fun _ => ⟨Or.inl (by decide), kk h1 (keepN_tr kn k1) t1 (fun z => absurd z (show ¬ false = true by decide))⟩, fun z => absurd (by decide) z⟩
theorem n1_X11_readsStatement {g : Nat} {h : AH} {K : Int32 → AH → Prop} (k : nG (fun h => AW M_X11_readsStatement (.inl (fun x u => (x = 0 ∨ x = 1) ∧ K x u)) 244 [some (aR 15 0), none, some (aI (nI 0))] [] h 0 0) (fun h => AW M_X11_readsStatement (.inl (fun x u => (x = 0 ∨ x = 1) ∧ K x u)) 244 [some (aR 15 0), none, some (aI (nI 1))] [] h 0 0) [g] 0 h) : S_X11_readsNumber (nI 0) (nI g) h (fun x2 h1 => AW M_X11_readsStatement (.inl (fun x u => (x = 0 ∨ x = 1) ∧ K x u)) 244 [some (aR 15 0), none, some (aI x2)] [] h1 0 0) := by
  obtain ⟨E, sz, p, a, k0, n0, h1, h2, h3, h4, h5, h6, k⟩ := k
  refine ⟨E, sz, p, a, k0, n0, h1, h2, h3, h4, h5, h6, fun h' a1 a2 a3 a4 => ?_⟩
  have := k h' a1 a2 a3 a4
  by_cases q : (rd (hb E sz) n0 p 0).1 = true
  · rw [if_pos q] at this ⊢
    exact this.2 (by decide)
  · rw [if_neg q] at this ⊢
    exact this.1 (by decide)
theorem snd_X11_readsStatement {h : AH} {K : Int32 → AH → Prop} (k : S_X11_readsStatement h K) : AW M_X11_readsStatement (.inl (fun x u => (x = 0 ∨ x = 1) ∧ K x u)) 0 [some (aR 15 0), none, none] [] h 0 0 := by
  obtain ⟨E, sz, p, a, ht, hp, k⟩ := k
  refine vc_X11_readsStatement ⟨E, sz, p, a, ht, ?_⟩
  dsimp only
  rw [ht.1, nI_add]
  unfold rdS at k
  generalize hx : hb E sz p = x at k ⊢
  have t1 : txt (wI h 15 0 6 (nI (p + 1))) E sz (p + 1) a := txt_k keepN_6 ht (wI_at _ _ _ _ _) (by omega)
  have no : grp x = [] → AW M_X11_readsStatement (.inl (fun x u => (x = 0 ∨ x = 1) ∧ K x u)) 232 [some (aR 15 0), none, none] [] (wI h 15 0 6 (nI (p + 1))) 0 0 := by
    intro q
    rw [if_pos q] at k
    refine vc_X11_readsStatement_232 ⟨Or.inl (by decide), ?_⟩
    rw [wI_at, n_sub (by omega)]
    exact k _ (keepN_tr keepN_6 keepN_6) (txt_k (keepN_tr keepN_6 keepN_6) ht (wI_at _ _ _ _ _) (by show p ≤ 200; omega)) (fun z => absurd z (show ¬ false = true by decide))
  have ye : ∀ gs, grp x = gs → gs ≠ [] → gs.length ≤ 4 → (∀ g, g ∈ gs → g ≤ 2) → nG (fun h => AW M_X11_readsStatement (.inl (fun x u => (x = 0 ∨ x = 1) ∧ K x u)) 244 [some (aR 15 0), none, some (aI (nI 0))] [] h 0 0) (fun h => AW M_X11_readsStatement (.inl (fun x u => (x = 0 ∨ x = 1) ∧ K x u)) 244 [some (aR 15 0), none, some (aI (nI 1))] [] h 0 0) gs 0 (wI h 15 0 6 (nI (p + 1))) := by
    intro gs q hne hl hg
    rw [if_neg (by rw [q]; exact hne), q] at k
    refine nG_ok gs 0 [] (p + 1) _ rfl (by omega) hg (by omega) keepN_6 t1 (fun j hj => absurd hj (by omega)) (fun h' a1 a2 a3 => ?_)
    rw [List.nil_append] at a3
    exact k h' a1 a2 a3
  have g99 := ye [1, 1, 1, 1]
  have g101 := ye [2, 1, 1]
  have g115 := ye [1, 1]
  have g100 := ye [1]
  have g104 := ye [2]
  clear ye k
  refine ⟨fun q => no ?_, fun q => ?_, fun q => ?_, fun q => ?_, fun q => no ?_, fun q => no ?_, fun q => ?_, fun q => no ?_, fun q => no ?_, fun q => no ?_, fun q => no ?_, fun q => no ?_, fun q => no ?_, fun q => no ?_, fun q => no ?_, fun q => no ?_, fun q => no ?_, fun q => ?_, fun q => ?_, trivial⟩
  · unfold grp
    have hx : ∀ k, 99 ≤ k → k ≤ 116 → x ≠ nI k := fun k h1 h2 z => by
      subst z
      rw [n_toInt (by omega)] at q
      omega
    rw [if_neg (hx 99 (by omega) (by omega)), if_neg (hx 101 (by omega) (by omega)), if_neg (fun z => z.elim (hx 115 (by omega) (by omega)) (hx 116 (by omega) (by omega))), if_neg (hx 100 (by omega) (by omega)), if_neg (hx 104 (by omega) (by omega))]
  · exact vc_X11_readsStatement_104 (g99 (by rw [q]; decide) (by simp) (by simp) (by simp))
  · exact vc_X11_readsStatement_212 (n1_X11_readsStatement (g100 (by rw [q]; decide) (by simp) (by simp) (by simp)))
  · exact vc_X11_readsStatement_149 (g101 (by rw [q]; decide) (by simp) (by simp) (by simp))
  · rw [q]; decide
  · rw [q]; decide
  · exact vc_X11_readsStatement_222 (n1_X11_readsStatement (g104 (by rw [q]; decide) (by simp) (by simp) (by simp)))
  · rw [q]; decide
  · rw [q]; decide
  · rw [q]; decide
  · rw [q]; decide
  · rw [q]; decide
  · rw [q]; decide
  · rw [q]; decide
  · rw [q]; decide
  · rw [q]; decide
  · rw [q]; decide
  · exact vc_X11_readsStatement_185 (g115 (by rw [q]; decide) (by simp) (by simp) (by simp))
  · exact vc_X11_readsStatement_185 (g115 (by rw [q]; decide) (by simp) (by simp) (by simp))
theorem tr_X11_readsStatement : ∀ (as : List AV) (h : AH) (K : Int32 → AH → Prop), T_X11_readsStatement as h K → ∃ (q : Nat) (r : List AV), as = aR 15 q :: r := by
  intro as h K hk
  match as, hk with
  | [.inr (.inr (.inl q0))], hk =>
    obtain ⟨hb, hk⟩ := tif_inv hk
    simp only [Bool.and_eq_true] at hb
    obtain ⟨e0, e1⟩ := hb
    obtain ⟨a0, b0⟩ := q0
    have f0 : a0 = 15 := Nat.eq_of_beq_eq_true e0
    subst f0
    have f1 : b0 = 0 := Nat.eq_of_beq_eq_true e1
    subst f1
    exact ⟨_, _, rfl⟩
theorem tw_X11_readsStatement : ∀ (as : List AV) (h : AH) (K : Int32 → AH → Prop), T_X11_readsStatement as h K → (ini as).length ≤ mNL M_X11_readsStatement ∧ AW M_X11_readsStatement (.inl (fun x u => (x = 0 ∨ x = 1) ∧ K x u)) 0 (initL (mNL M_X11_readsStatement) as) [] h 0 0 := by
  intro as h K hk
  match as, hk with
  | [.inr (.inr (.inl q0))], hk =>
    obtain ⟨hb, hk⟩ := tif_inv hk
    simp only [Bool.and_eq_true] at hb
    obtain ⟨e0, e1⟩ := hb
    obtain ⟨a0, b0⟩ := q0
    have f0 : a0 = 15 := Nat.eq_of_beq_eq_true e0
    subst f0
    have f1 : b0 = 0 := Nat.eq_of_beq_eq_true e1
    subst f1
    exact ⟨Nat.le_of_ble_eq_true rfl, snd_X11_readsStatement  hk⟩
theorem cr_RX11_432 : CR RX11 (kIns 432) (1, 3, 67, 0, 0, .inl T_X11_readsStatement) := crV_z (t := 15) (M := M_X11_readsStatement) (by decide) rfl (by decide) rfl (inG (i := 1004) (w := Cond.methodLink RX11 144 yX11_readsStatement) (by decide +kernel) rfl) (inG (i := 1006) (w := Cond.instanceMethod yX11_readsStatement) (by decide +kernel) rfl) (inG (i := 40) (w := Cond.initialized RX11) (by decide +kernel) rfl) (inG (i := 16) (w := Cond.selects RX11 yX11_readsStatement yX11_readsStatement) (by decide +kernel) rfl) (inG (i := 1007) (w := Cond.code yX11_readsStatement cX11_readsStatement 3 (some .boolean)) (by decide +kernel) rfl) ⟨by decide +kernel, by decide +kernel, by decide +kernel⟩ tr_X11_readsStatement tw_X11_readsStatement

