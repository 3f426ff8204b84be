/-! ===== the bytes of a body, read along the table ===== -/
noncomputable def dxCo {α : Type} (b : Bool) (x y : α) : α := @Bool.rec (fun _ => α) y x b
theorem dxCn {a b : Bool} : dxCo a b false = true ↔ a = true ∧ b = true := by cases a <;> cases b <;> decide
noncomputable def dxF {β : Type} (l : List (Nat × β)) (k : Nat) : Option β := @List.rec (Nat × β) (fun _ => Option β) none (fun q _ ih => dxCo (Nat.beq q.1 k) (some q.2) ih) l
theorem dxF_mem {β : Type} {k : Nat} {e : β} : ∀ {l : List (Nat × β)}, dxF l k = some e → (k, e) ∈ l
  | [], h => by cases h
  | q :: l, h => by
    have h : dxCo (Nat.beq q.1 k) (some q.2) (dxF l k) = some e := h
    cases hb : Nat.beq q.1 k with
    | true =>
      rw [hb] at h
      have h : some q.2 = some e := h
      cases h
      have := Nat.eq_of_beq_eq_true hb
      subst this
      exact List.mem_cons_self
    | false =>
      rw [hb] at h
      exact List.mem_cons_of_mem _ (dxF_mem h)
noncomputable def dxTb : List (Nat × Nat × (Int → Instr)) := [(42, 0, fun _ => .aload_n 0), (180, 3, fun x => .getfield x.toNat), (43, 0, fun _ => .aload_n 1), (3, 0, fun _ => .iconst 0), (4, 0, fun _ => .iconst 1), (26, 0, fun _ => .iload_n 0), (27, 0, fun _ => .iload_n 1), (182, 3, fun x => .invokevirtual x.toNat), (153, 4, fun x => .ifCond .eq x), (154, 4, fun x => .ifCond .ne x), (162, 4, fun x => .if_icmp .ge x), (161, 4, fun x => .if_icmp .lt x), (172, 0, fun _ => .ireturn), (167, 4, fun x => .goto x), (181, 3, fun x => .putfield x.toNat), (44, 0, fun _ => .aload_n 2), (28, 0, fun _ => .iload_n 2), (29, 0, fun _ => .iload_n 3), (5, 0, fun _ => .iconst 2), (45, 0, fun _ => .aload_n 3), (21, 1, fun x => .iload x.toNat), (16, 2, fun x => .bipush x), (96, 0, fun _ => .iadd), (46, 0, fun _ => .iaload), (1, 0, fun _ => .aconst_null), (2, 0, fun _ => .iconst (-1)), (6, 0, fun _ => .iconst 3), (7, 0, fun _ => .iconst 4), (8, 0, fun _ => .iconst 5), (9, 0, fun _ => .lconst 0), (10, 0, fun _ => .lconst 1), (17, 4, fun x => .sipush x), (18, 1, fun x => .ldc x.toNat), (19, 3, fun x => .ldc_w x.toNat), (20, 3, fun x => .ldc2_w x.toNat), (22, 1, fun x => .lload x.toNat), (25, 1, fun x => .aload x.toNat), (30, 0, fun _ => .lload_n 0), (31, 0, fun _ => .lload_n 1), (32, 0, fun _ => .lload_n 2), (33, 0, fun _ => .lload_n 3), (47, 0, fun _ => .laload), (50, 0, fun _ => .aaload), (51, 0, fun _ => .baload), (54, 1, fun x => .istore x.toNat), (55, 1, fun x => .lstore x.toNat), (58, 1, fun x => .astore x.toNat), (59, 0, fun _ => .istore_n 0), (60, 0, fun _ => .istore_n 1), (61, 0, fun _ => .istore_n 2), (62, 0, fun _ => .istore_n 3), (63, 0, fun _ => .lstore_n 0), (64, 0, fun _ => .lstore_n 1), (65, 0, fun _ => .lstore_n 2), (66, 0, fun _ => .lstore_n 3), (75, 0, fun _ => .astore_n 0), (76, 0, fun _ => .astore_n 1), (77, 0, fun _ => .astore_n 2), (78, 0, fun _ => .astore_n 3), (79, 0, fun _ => .iastore), (80, 0, fun _ => .lastore), (83, 0, fun _ => .aastore), (84, 0, fun _ => .bastore), (87, 0, fun _ => .pop), (89, 0, fun _ => .dup), (92, 0, fun _ => .dup2), (97, 0, fun _ => .ladd), (100, 0, fun _ => .isub), (101, 0, fun _ => .lsub), (104, 0, fun _ => .imul), (105, 0, fun _ => .lmul), (108, 0, fun _ => .idiv), (109, 0, fun _ => .ldiv), (112, 0, fun _ => .irem), (113, 0, fun _ => .lrem), (117, 0, fun _ => .lneg), (120, 0, fun _ => .ishl), (121, 0, fun _ => .lshl), (122, 0, fun _ => .ishr), (124, 0, fun _ => .iushr), (125, 0, fun _ => .lushr), (126, 0, fun _ => .iand), (127, 0, fun _ => .land), (128, 0, fun _ => .ior), (129, 0, fun _ => .lor), (132, 5, fun _ => .nop), (133, 0, fun _ => .i2l), (136, 0, fun _ => .l2i), (145, 0, fun _ => .i2b), (148, 0, fun _ => .lcmp), (155, 4, fun x => .ifCond .lt x), (156, 4, fun x => .ifCond .ge x), (157, 4, fun x => .ifCond .gt x), (158, 4, fun x => .ifCond .le x), (159, 4, fun x => .if_icmp .eq x), (160, 4, fun x => .if_icmp .ne x), (163, 4, fun x => .if_icmp .gt x), (164, 4, fun x => .if_icmp .le x), (173, 0, fun _ => .lreturn), (176, 0, fun _ => .areturn), (177, 0, fun _ => .return_), (183, 3, fun x => .invokespecial x.toNat), (184, 3, fun x => .invokestatic x.toNat), (187, 3, fun x => .new x.toNat), (189, 3, fun x => .anewarray x.toNat), (190, 0, fun _ => .arraylength), (191, 0, fun _ => .athrow), (199, 4, fun x => .ifnonnull x)]
noncomputable def dxOk (r : Jvm.ClassFile.Decoder Instr) (e : Nat × (Int → Instr)) : Prop := match e.1 with
  | 0 => r = Pure.pure (e.2 0)
  | 1 => r = Jvm.ClassFile.Reader.u1 >>= fun x => Pure.pure (e.2 (Int.ofNat x))
  | 2 => r = Jvm.ClassFile.Reader.s1 >>= fun x => Pure.pure (e.2 x)
  | 3 => r = Jvm.ClassFile.Reader.u2 >>= fun x => Pure.pure (e.2 (Int.ofNat x))
  | 4 => r = Jvm.ClassFile.Reader.s2 >>= fun x => Pure.pure (e.2 x)
  | 5 => r = Jvm.ClassFile.Reader.u1 >>= fun x => Jvm.ClassFile.Reader.s1 >>= fun y => Pure.pure (.iinc x y)
  | _ => False
set_option maxRecDepth 100000 in
theorem dxArm : ∃ f : Nat → Nat → Jvm.ClassFile.Decoder Instr, (∀ pc, Jvm.ClassFile.Decoder.instr pc = Jvm.ClassFile.Reader.u1 >>= f pc)
    ∧ (∀ pc, dxOk (f pc 42) (0, fun _ => .aload_n 0))
    ∧ (∀ pc, dxOk (f pc 180) (3, fun x => .getfield x.toNat))
    ∧ (∀ pc, dxOk (f pc 43) (0, fun _ => .aload_n 1))
    ∧ (∀ pc, dxOk (f pc 3) (0, fun _ => .iconst 0))
    ∧ (∀ pc, dxOk (f pc 4) (0, fun _ => .iconst 1))
    ∧ (∀ pc, dxOk (f pc 26) (0, fun _ => .iload_n 0))
    ∧ (∀ pc, dxOk (f pc 27) (0, fun _ => .iload_n 1))
    ∧ (∀ pc, dxOk (f pc 182) (3, fun x => .invokevirtual x.toNat))
    ∧ (∀ pc, dxOk (f pc 153) (4, fun x => .ifCond .eq x))
    ∧ (∀ pc, dxOk (f pc 154) (4, fun x => .ifCond .ne x))
    ∧ (∀ pc, dxOk (f pc 162) (4, fun x => .if_icmp .ge x))
    ∧ (∀ pc, dxOk (f pc 161) (4, fun x => .if_icmp .lt x))
    ∧ (∀ pc, dxOk (f pc 172) (0, fun _ => .ireturn))
    ∧ (∀ pc, dxOk (f pc 167) (4, fun x => .goto x))
    ∧ (∀ pc, dxOk (f pc 181) (3, fun x => .putfield x.toNat))
    ∧ (∀ pc, dxOk (f pc 44) (0, fun _ => .aload_n 2))
    ∧ (∀ pc, dxOk (f pc 28) (0, fun _ => .iload_n 2))
    ∧ (∀ pc, dxOk (f pc 29) (0, fun _ => .iload_n 3))
    ∧ (∀ pc, dxOk (f pc 5) (0, fun _ => .iconst 2))
    ∧ (∀ pc, dxOk (f pc 45) (0, fun _ => .aload_n 3))
    ∧ (∀ pc, dxOk (f pc 21) (1, fun x => .iload x.toNat))
    ∧ (∀ pc, dxOk (f pc 16) (2, fun x => .bipush x))
    ∧ (∀ pc, dxOk (f pc 96) (0, fun _ => .iadd))
    ∧ (∀ pc, dxOk (f pc 46) (0, fun _ => .iaload))
    ∧ (∀ pc, dxOk (f pc 1) (0, fun _ => .aconst_null))
    ∧ (∀ pc, dxOk (f pc 2) (0, fun _ => .iconst (-1)))
    ∧ (∀ pc, dxOk (f pc 6) (0, fun _ => .iconst 3))
    ∧ (∀ pc, dxOk (f pc 7) (0, fun _ => .iconst 4))
    ∧ (∀ pc, dxOk (f pc 8) (0, fun _ => .iconst 5))
    ∧ (∀ pc, dxOk (f pc 9) (0, fun _ => .lconst 0))
    ∧ (∀ pc, dxOk (f pc 10) (0, fun _ => .lconst 1))
    ∧ (∀ pc, dxOk (f pc 17) (4, fun x => .sipush x))
    ∧ (∀ pc, dxOk (f pc 18) (1, fun x => .ldc x.toNat))
    ∧ (∀ pc, dxOk (f pc 19) (3, fun x => .ldc_w x.toNat))
    ∧ (∀ pc, dxOk (f pc 20) (3, fun x => .ldc2_w x.toNat))
    ∧ (∀ pc, dxOk (f pc 22) (1, fun x => .lload x.toNat))
    ∧ (∀ pc, dxOk (f pc 25) (1, fun x => .aload x.toNat))
    ∧ (∀ pc, dxOk (f pc 30) (0, fun _ => .lload_n 0))
    ∧ (∀ pc, dxOk (f pc 31) (0, fun _ => .lload_n 1))
    ∧ (∀ pc, dxOk (f pc 32) (0, fun _ => .lload_n 2))
    ∧ (∀ pc, dxOk (f pc 33) (0, fun _ => .lload_n 3))
    ∧ (∀ pc, dxOk (f pc 47) (0, fun _ => .laload))
    ∧ (∀ pc, dxOk (f pc 50) (0, fun _ => .aaload))
    ∧ (∀ pc, dxOk (f pc 51) (0, fun _ => .baload))
    ∧ (∀ pc, dxOk (f pc 54) (1, fun x => .istore x.toNat))
    ∧ (∀ pc, dxOk (f pc 55) (1, fun x => .lstore x.toNat))
    ∧ (∀ pc, dxOk (f pc 58) (1, fun x => .astore x.toNat))
    ∧ (∀ pc, dxOk (f pc 59) (0, fun _ => .istore_n 0))
    ∧ (∀ pc, dxOk (f pc 60) (0, fun _ => .istore_n 1))
    ∧ (∀ pc, dxOk (f pc 61) (0, fun _ => .istore_n 2))
    ∧ (∀ pc, dxOk (f pc 62) (0, fun _ => .istore_n 3))
    ∧ (∀ pc, dxOk (f pc 63) (0, fun _ => .lstore_n 0))
    ∧ (∀ pc, dxOk (f pc 64) (0, fun _ => .lstore_n 1))
    ∧ (∀ pc, dxOk (f pc 65) (0, fun _ => .lstore_n 2))
    ∧ (∀ pc, dxOk (f pc 66) (0, fun _ => .lstore_n 3))
    ∧ (∀ pc, dxOk (f pc 75) (0, fun _ => .astore_n 0))
    ∧ (∀ pc, dxOk (f pc 76) (0, fun _ => .astore_n 1))
    ∧ (∀ pc, dxOk (f pc 77) (0, fun _ => .astore_n 2))
    ∧ (∀ pc, dxOk (f pc 78) (0, fun _ => .astore_n 3))
    ∧ (∀ pc, dxOk (f pc 79) (0, fun _ => .iastore))
    ∧ (∀ pc, dxOk (f pc 80) (0, fun _ => .lastore))
    ∧ (∀ pc, dxOk (f pc 83) (0, fun _ => .aastore))
    ∧ (∀ pc, dxOk (f pc 84) (0, fun _ => .bastore))
    ∧ (∀ pc, dxOk (f pc 87) (0, fun _ => .pop))
    ∧ (∀ pc, dxOk (f pc 89) (0, fun _ => .dup))
    ∧ (∀ pc, dxOk (f pc 92) (0, fun _ => .dup2))
    ∧ (∀ pc, dxOk (f pc 97) (0, fun _ => .ladd))
    ∧ (∀ pc, dxOk (f pc 100) (0, fun _ => .isub))
    ∧ (∀ pc, dxOk (f pc 101) (0, fun _ => .lsub))
    ∧ (∀ pc, dxOk (f pc 104) (0, fun _ => .imul))
    ∧ (∀ pc, dxOk (f pc 105) (0, fun _ => .lmul))
    ∧ (∀ pc, dxOk (f pc 108) (0, fun _ => .idiv))
    ∧ (∀ pc, dxOk (f pc 109) (0, fun _ => .ldiv))
    ∧ (∀ pc, dxOk (f pc 112) (0, fun _ => .irem))
    ∧ (∀ pc, dxOk (f pc 113) (0, fun _ => .lrem))
    ∧ (∀ pc, dxOk (f pc 117) (0, fun _ => .lneg))
    ∧ (∀ pc, dxOk (f pc 120) (0, fun _ => .ishl))
    ∧ (∀ pc, dxOk (f pc 121) (0, fun _ => .lshl))
    ∧ (∀ pc, dxOk (f pc 122) (0, fun _ => .ishr))
    ∧ (∀ pc, dxOk (f pc 124) (0, fun _ => .iushr))
    ∧ (∀ pc, dxOk (f pc 125) (0, fun _ => .lushr))
    ∧ (∀ pc, dxOk (f pc 126) (0, fun _ => .iand))
    ∧ (∀ pc, dxOk (f pc 127) (0, fun _ => .land))
    ∧ (∀ pc, dxOk (f pc 128) (0, fun _ => .ior))
    ∧ (∀ pc, dxOk (f pc 129) (0, fun _ => .lor))
    ∧ (∀ pc, dxOk (f pc 132) (5, fun _ => .nop))
    ∧ (∀ pc, dxOk (f pc 133) (0, fun _ => .i2l))
    ∧ (∀ pc, dxOk (f pc 136) (0, fun _ => .l2i))
    ∧ (∀ pc, dxOk (f pc 145) (0, fun _ => .i2b))
    ∧ (∀ pc, dxOk (f pc 148) (0, fun _ => .lcmp))
    ∧ (∀ pc, dxOk (f pc 155) (4, fun x => .ifCond .lt x))
    ∧ (∀ pc, dxOk (f pc 156) (4, fun x => .ifCond .ge x))
    ∧ (∀ pc, dxOk (f pc 157) (4, fun x => .ifCond .gt x))
    ∧ (∀ pc, dxOk (f pc 158) (4, fun x => .ifCond .le x))
    ∧ (∀ pc, dxOk (f pc 159) (4, fun x => .if_icmp .eq x))
    ∧ (∀ pc, dxOk (f pc 160) (4, fun x => .if_icmp .ne x))
    ∧ (∀ pc, dxOk (f pc 163) (4, fun x => .if_icmp .gt x))
    ∧ (∀ pc, dxOk (f pc 164) (4, fun x => .if_icmp .le x))
    ∧ (∀ pc, dxOk (f pc 173) (0, fun _ => .lreturn))
    ∧ (∀ pc, dxOk (f pc 176) (0, fun _ => .areturn))
    ∧ (∀ pc, dxOk (f pc 177) (0, fun _ => .return_))
    ∧ (∀ pc, dxOk (f pc 183) (3, fun x => .invokespecial x.toNat))
    ∧ (∀ pc, dxOk (f pc 184) (3, fun x => .invokestatic x.toNat))
    ∧ (∀ pc, dxOk (f pc 187) (3, fun x => .new x.toNat))
    ∧ (∀ pc, dxOk (f pc 189) (3, fun x => .anewarray x.toNat))
    ∧ (∀ pc, dxOk (f pc 190) (0, fun _ => .arraylength))
    ∧ (∀ pc, dxOk (f pc 191) (0, fun _ => .athrow))
    ∧ (∀ pc, dxOk (f pc 199) (4, fun x => .ifnonnull x))
    := ⟨_, fun _ => rfl, fun _ => rfl, fun _ => rfl, fun _ => rfl, fun _ => rfl, fun _ => rfl, fun _ => rfl, fun _ => rfl, fun _ => rfl, fun _ => rfl, fun _ => rfl, fun _ => rfl, fun _ => rfl, fun _ => rfl, fun _ => rfl, fun _ => rfl, fun _ => rfl, fun _ => rfl, fun _ => rfl, fun _ => rfl, fun _ => rfl, fun _ => rfl, fun _ => rfl, fun _ => rfl, fun _ => rfl, fun _ => rfl, fun _ => rfl, fun _ => rfl, fun _ => rfl, fun _ => rfl, fun _ => rfl, fun _ => rfl, fun _ => rfl, fun _ => rfl, fun _ => rfl, fun _ => rfl, fun _ => rfl, fun _ => rfl, fun _ => rfl, fun _ => rfl, fun _ => rfl, fun _ => rfl, fun _ => rfl, fun _ => rfl, fun _ => rfl, fun _ => rfl, fun _ => rfl, fun _ => rfl, fun _ => rfl, fun _ => rfl, fun _ => rfl, fun _ => rfl, fun _ => rfl, fun _ => rfl, fun _ => rfl, fun _ => rfl, fun _ => rfl, fun _ => rfl, fun _ => rfl, fun _ => rfl, fun _ => rfl, fun _ => rfl, fun _ => rfl, fun _ => rfl, fun _ => rfl, fun _ => rfl, fun _ => rfl, fun _ => rfl, fun _ => rfl, fun _ => rfl, fun _ => rfl, fun _ => rfl, fun _ => rfl, fun _ => rfl, fun _ => rfl, fun _ => rfl, fun _ => rfl, fun _ => rfl, fun _ => rfl, fun _ => rfl, fun _ => rfl, fun _ => rfl, fun _ => rfl, fun _ => rfl, fun _ => rfl, fun _ => rfl, fun _ => rfl, fun _ => rfl, fun _ => rfl, fun _ => rfl, fun _ => rfl, fun _ => rfl, fun _ => rfl, fun _ => rfl, fun _ => rfl, fun _ => rfl, fun _ => rfl, fun _ => rfl, fun _ => rfl, fun _ => rfl, fun _ => rfl, fun _ => rfl, fun _ => rfl, fun _ => rfl, fun _ => rfl, fun _ => rfl, fun _ => rfl, fun _ => rfl, fun _ => rfl⟩
set_option maxRecDepth 100000 in
theorem dxArms : ∃ f : Nat → Nat → Jvm.ClassFile.Decoder Instr, (∀ pc, Jvm.ClassFile.Decoder.instr pc = Jvm.ClassFile.Reader.u1 >>= f pc) ∧ ∀ (op : Nat) (e : Nat × (Int → Instr)), (op, e) ∈ dxTb → ∀ pc, dxOk (f pc op) e := by
  obtain ⟨f, h0, h⟩ := dxArm
  refine ⟨f, h0, fun op e he => ?_⟩
  have hall : ∀ q ∈ dxTb, ∀ pc, dxOk (f pc q.1) q.2 := by
    unfold dxTb
    rw [List.forall_mem_cons, List.forall_mem_cons, List.forall_mem_cons, List.forall_mem_cons, List.forall_mem_cons, List.forall_mem_cons, List.forall_mem_cons, List.forall_mem_cons, List.forall_mem_cons, List.forall_mem_cons, List.forall_mem_cons, List.forall_mem_cons, List.forall_mem_cons, List.forall_mem_cons, List.forall_mem_cons, List.forall_mem_cons, List.forall_mem_cons, List.forall_mem_cons, List.forall_mem_cons, List.forall_mem_cons, List.forall_mem_cons, List.forall_mem_cons, List.forall_mem_cons, List.forall_mem_cons, List.forall_mem_cons, List.forall_mem_cons, List.forall_mem_cons, List.forall_mem_cons, List.forall_mem_cons, List.forall_mem_cons, List.forall_mem_cons, List.forall_mem_cons, List.forall_mem_cons, List.forall_mem_cons, List.forall_mem_cons, List.forall_mem_cons, List.forall_mem_cons, List.forall_mem_cons, List.forall_mem_cons, List.forall_mem_cons, List.forall_mem_cons, List.forall_mem_cons, List.forall_mem_cons, List.forall_mem_cons, List.forall_mem_cons, List.forall_mem_cons, List.forall_mem_cons, List.forall_mem_cons, List.forall_mem_cons, List.forall_mem_cons, List.forall_mem_cons, List.forall_mem_cons, List.forall_mem_cons, List.forall_mem_cons, List.forall_mem_cons, List.forall_mem_cons, List.forall_mem_cons, List.forall_mem_cons, List.forall_mem_cons, List.forall_mem_cons, List.forall_mem_cons, List.forall_mem_cons, List.forall_mem_cons, List.forall_mem_cons, List.forall_mem_cons, List.forall_mem_cons, List.forall_mem_cons, List.forall_mem_cons, List.forall_mem_cons, List.forall_mem_cons, List.forall_mem_cons, List.forall_mem_cons, List.forall_mem_cons, List.forall_mem_cons, List.forall_mem_cons, List.forall_mem_cons, List.forall_mem_cons, List.forall_mem_cons, List.forall_mem_cons, List.forall_mem_cons, List.forall_mem_cons, List.forall_mem_cons, List.forall_mem_cons, List.forall_mem_cons, List.forall_mem_cons, List.forall_mem_cons, List.forall_mem_cons, List.forall_mem_cons, List.forall_mem_cons, List.forall_mem_cons, List.forall_mem_cons, List.forall_mem_cons, List.forall_mem_cons, List.forall_mem_cons, List.forall_mem_cons, List.forall_mem_cons, List.forall_mem_cons, List.forall_mem_cons, List.forall_mem_cons, List.forall_mem_cons, List.forall_mem_cons, List.forall_mem_cons, List.forall_mem_cons, List.forall_mem_cons, List.forall_mem_cons, List.forall_mem_cons, List.forall_mem_cons, List.forall_mem_cons]
    exact ⟨h.1, h.2.1, h.2.2.1, h.2.2.2.1, h.2.2.2.2.1, h.2.2.2.2.2.1, h.2.2.2.2.2.2.1, h.2.2.2.2.2.2.2.1, h.2.2.2.2.2.2.2.2.1, h.2.2.2.2.2.2.2.2.2.1, h.2.2.2.2.2.2.2.2.2.2.1, h.2.2.2.2.2.2.2.2.2.2.2.1, h.2.2.2.2.2.2.2.2.2.2.2.2.1, h.2.2.2.2.2.2.2.2.2.2.2.2.2.1, h.2.2.2.2.2.2.2.2.2.2.2.2.2.2.1, h.2.2.2.2.2.2.2.2.2.2.2.2.2.2.2.1, h.2.2.2.2.2.2.2.2.2.2.2.2.2.2.2.2.1, h.2.2.2.2.2.2.2.2.2.2.2.2.2.2.2.2.2.1, h.2.2.2.2.2.2.2.2.2.2.2.2.2.2.2.2.2.2.1, h.2.2.2.2.2.2.2.2.2.2.2.2.2.2.2.2.2.2.2.1, h.2.2.2.2.2.2.2.2.2.2.2.2.2.2.2.2.2.2.2.2.1, h.2.2.2.2.2.2.2.2.2.2.2.2.2.2.2.2.2.2.2.2.2.1, h.2.2.2.2.2.2.2.2.2.2.2.2.2.2.2.2.2.2.2.2.2.2.1, h.2.2.2.2.2.2.2.2.2.2.2.2.2.2.2.2.2.2.2.2.2.2.2.1, h.2.2.2.2.2.2.2.2.2.2.2.2.2.2.2.2.2.2.2.2.2.2.2.2.1, h.2.2.2.2.2.2.2.2.2.2.2.2.2.2.2.2.2.2.2.2.2.2.2.2.2.1, h.2.2.2.2.2.2.2.2.2.2.2.2.2.2.2.2.2.2.2.2.2.2.2.2.2.2.1, h.2.2.2.2.2.2.2.2.2.2.2.2.2.2.2.2.2.2.2.2.2.2.2.2.2.2.2.1, h.2.2.2.2.2.2.2.2.2.2.2.2.2.2.2.2.2.2.2.2.2.2.2.2.2.2.2.2.1, h.2.2.2.2.2.2.2.2.2.2.2.2.2.2.2.2.2.2.2.2.2.2.2.2.2.2.2.2.2.1, h.2.2.2.2.2.2.2.2.2.2.2.2.2.2.2.2.2.2.2.2.2.2.2.2.2.2.2.2.2.2.1, h.2.2.2.2.2.2.2.2.2.2.2.2.2.2.2.2.2.2.2.2.2.2.2.2.2.2.2.2.2.2.2.1, h.2.2.2.2.2.2.2.2.2.2.2.2.2.2.2.2.2.2.2.2.2.2.2.2.2.2.2.2.2.2.2.2.1, h.2.2.2.2.2.2.2.2.2.2.2.2.2.2.2.2.2.2.2.2.2.2.2.2.2.2.2.2.2.2.2.2.2.1, h.2.2.2.2.2.2.2.2.2.2.2.2.2.2.2.2.2.2.2.2.2.2.2.2.2.2.2.2.2.2.2.2.2.2.1, h.2.2.2.2.2.2.2.2.2.2.2.2.2.2.2.2.2.2.2.2.2.2.2.2.2.2.2.2.2.2.2.2.2.2.2.1, h.2.2.2.2.2.2.2.2.2.2.2.2.2.2.2.2.2.2.2.2.2.2.2.2.2.2.2.2.2.2.2.2.2.2.2.2.1, h.2.2.2.2.2.2.2.2.2.2.2.2.2.2.2.2.2.2.2.2.2.2.2.2.2.2.2.2.2.2.2.2.2.2.2.2.2.1, h.2.2.2.2.2.2.2.2.2.2.2.2.2.2.2.2.2.2.2.2.2.2.2.2.2.2.2.2.2.2.2.2.2.2.2.2.2.2.1, h.2.2.2.2.2.2.2.2.2.2.2.2.2.2.2.2.2.2.2.2.2.2.2.2.2.2.2.2.2.2.2.2.2.2.2.2.2.2.2.1, h.2.2.2.2.2.2.2.2.2.2.2.2.2.2.2.2.2.2.2.2.2.2.2.2.2.2.2.2.2.2.2.2.2.2.2.2.2.2.2.2.1, h.2.2.2.2.2.2.2.2.2.2.2.2.2.2.2.2.2.2.2.2.2.2.2.2.2.2.2.2.2.2.2.2.2.2.2.2.2.2.2.2.2.1, h.2.2.2.2.2.2.2.2.2.2.2.2.2.2.2.2.2.2.2.2.2.2.2.2.2.2.2.2.2.2.2.2.2.2.2.2.2.2.2.2.2.2.1, h.2.2.2.2.2.2.2.2.2.2.2.2.2.2.2.2.2.2.2.2.2.2.2.2.2.2.2.2.2.2.2.2.2.2.2.2.2.2.2.2.2.2.2.1, h.2.2.2.2.2.2.2.2.2.2.2.2.2.2.2.2.2.2.2.2.2.2.2.2.2.2.2.2.2.2.2.2.2.2.2.2.2.2.2.2.2.2.2.2.1, h.2.2.2.2.2.2.2.2.2.2.2.2.2.2.2.2.2.2.2.2.2.2.2.2.2.2.2.2.2.2.2.2.2.2.2.2.2.2.2.2.2.2.2.2.2.1, h.2.2.2.2.2.2.2.2.2.2.2.2.2.2.2.2.2.2.2.2.2.2.2.2.2.2.2.2.2.2.2.2.2.2.2.2.2.2.2.2.2.2.2.2.2.2.1, h.2.2.2.2.2.2.2.2.2.2.2.2.2.2.2.2.2.2.2.2.2.2.2.2.2.2.2.2.2.2.2.2.2.2.2.2.2.2.2.2.2.2.2.2.2.2.2.1, h.2.2.2.2.2.2.2.2.2.2.2.2.2.2.2.2.2.2.2.2.2.2.2.2.2.2.2.2.2.2.2.2.2.2.2.2.2.2.2.2.2.2.2.2.2.2.2.2.1, h.2.2.2.2.2.2.2.2.2.2.2.2.2.2.2.2.2.2.2.2.2.2.2.2.2.2.2.2.2.2.2.2.2.2.2.2.2.2.2.2.2.2.2.2.2.2.2.2.2.1, h.2.2.2.2.2.2.2.2.2.2.2.2.2.2.2.2.2.2.2.2.2.2.2.2.2.2.2.2.2.2.2.2.2.2.2.2.2.2.2.2.2.2.2.2.2.2.2.2.2.2.1, h.2.2.2.2.2.2.2.2.2.2.2.2.2.2.2.2.2.2.2.2.2.2.2.2.2.2.2.2.2.2.2.2.2.2.2.2.2.2.2.2.2.2.2.2.2.2.2.2.2.2.2.1, h.2.2.2.2.2.2.2.2.2.2.2.2.2.2.2.2.2.2.2.2.2.2.2.2.2.2.2.2.2.2.2.2.2.2.2.2.2.2.2.2.2.2.2.2.2.2.2.2.2.2.2.2.1, h.2.2.2.2.2.2.2.2.2.2.2.2.2.2.2.2.2.2.2.2.2.2.2.2.2.2.2.2.2.2.2.2.2.2.2.2.2.2.2.2.2.2.2.2.2.2.2.2.2.2.2.2.2.1, h.2.2.2.2.2.2.2.2.2.2.2.2.2.2.2.2.2.2.2.2.2.2.2.2.2.2.2.2.2.2.2.2.2.2.2.2.2.2.2.2.2.2.2.2.2.2.2.2.2.2.2.2.2.2.1, h.2.2.2.2.2.2.2.2.2.2.2.2.2.2.2.2.2.2.2.2.2.2.2.2.2.2.2.2.2.2.2.2.2.2.2.2.2.2.2.2.2.2.2.2.2.2.2.2.2.2.2.2.2.2.2.1, h.2.2.2.2.2.2.2.2.2.2.2.2.2.2.2.2.2.2.2.2.2.2.2.2.2.2.2.2.2.2.2.2.2.2.2.2.2.2.2.2.2.2.2.2.2.2.2.2.2.2.2.2.2.2.2.2.1, h.2.2.2.2.2.2.2.2.2.2.2.2.2.2.2.2.2.2.2.2.2.2.2.2.2.2.2.2.2.2.2.2.2.2.2.2.2.2.2.2.2.2.2.2.2.2.2.2.2.2.2.2.2.2.2.2.2.1, h.2.2.2.2.2.2.2.2.2.2.2.2.2.2.2.2.2.2.2.2.2.2.2.2.2.2.2.2.2.2.2.2.2.2.2.2.2.2.2.2.2.2.2.2.2.2.2.2.2.2.2.2.2.2.2.2.2.2.1, h.2.2.2.2.2.2.2.2.2.2.2.2.2.2.2.2.2.2.2.2.2.2.2.2.2.2.2.2.2.2.2.2.2.2.2.2.2.2.2.2.2.2.2.2.2.2.2.2.2.2.2.2.2.2.2.2.2.2.2.1, h.2.2.2.2.2.2.2.2.2.2.2.2.2.2.2.2.2.2.2.2.2.2.2.2.2.2.2.2.2.2.2.2.2.2.2.2.2.2.2.2.2.2.2.2.2.2.2.2.2.2.2.2.2.2.2.2.2.2.2.2.1, h.2.2.2.2.2.2.2.2.2.2.2.2.2.2.2.2.2.2.2.2.2.2.2.2.2.2.2.2.2.2.2.2.2.2.2.2.2.2.2.2.2.2.2.2.2.2.2.2.2.2.2.2.2.2.2.2.2.2.2.2.2.1, h.2.2.2.2.2.2.2.2.2.2.2.2.2.2.2.2.2.2.2.2.2.2.2.2.2.2.2.2.2.2.2.2.2.2.2.2.2.2.2.2.2.2.2.2.2.2.2.2.2.2.2.2.2.2.2.2.2.2.2.2.2.2.1, h.2.2.2.2.2.2.2.2.2.2.2.2.2.2.2.2.2.2.2.2.2.2.2.2.2.2.2.2.2.2.2.2.2.2.2.2.2.2.2.2.2.2.2.2.2.2.2.2.2.2.2.2.2.2.2.2.2.2.2.2.2.2.2.1, h.2.2.2.2.2.2.2.2.2.2.2.2.2.2.2.2.2.2.2.2.2.2.2.2.2.2.2.2.2.2.2.2.2.2.2.2.2.2.2.2.2.2.2.2.2.2.2.2.2.2.2.2.2.2.2.2.2.2.2.2.2.2.2.2.1, h.2.2.2.2.2.2.2.2.2.2.2.2.2.2.2.2.2.2.2.2.2.2.2.2.2.2.2.2.2.2.2.2.2.2.2.2.2.2.2.2.2.2.2.2.2.2.2.2.2.2.2.2.2.2.2.2.2.2.2.2.2.2.2.2.2.1, h.2.2.2.2.2.2.2.2.2.2.2.2.2.2.2.2.2.2.2.2.2.2.2.2.2.2.2.2.2.2.2.2.2.2.2.2.2.2.2.2.2.2.2.2.2.2.2.2.2.2.2.2.2.2.2.2.2.2.2.2.2.2.2.2.2.2.1, h.2.2.2.2.2.2.2.2.2.2.2.2.2.2.2.2.2.2.2.2.2.2.2.2.2.2.2.2.2.2.2.2.2.2.2.2.2.2.2.2.2.2.2.2.2.2.2.2.2.2.2.2.2.2.2.2.2.2.2.2.2.2.2.2.2.2.2.1, h.2.2.2.2.2.2.2.2.2.2.2.2.2.2.2.2.2.2.2.2.2.2.2.2.2.2.2.2.2.2.2.2.2.2.2.2.2.2.2.2.2.2.2.2.2.2.2.2.2.2.2.2.2.2.2.2.2.2.2.2.2.2.2.2.2.2.2.2.1, h.2.2.2.2.2.2.2.2.2.2.2.2.2.2.2.2.2.2.2.2.2.2.2.2.2.2.2.2.2.2.2.2.2.2.2.2.2.2.2.2.2.2.2.2.2.2.2.2.2.2.2.2.2.2.2.2.2.2.2.2.2.2.2.2.2.2.2.2.2.1, h.2.2.2.2.2.2.2.2.2.2.2.2.2.2.2.2.2.2.2.2.2.2.2.2.2.2.2.2.2.2.2.2.2.2.2.2.2.2.2.2.2.2.2.2.2.2.2.2.2.2.2.2.2.2.2.2.2.2.2.2.2.2.2.2.2.2.2.2.2.2.1, h.2.2.2.2.2.2.2.2.2.2.2.2.2.2.2.2.2.2.2.2.2.2.2.2.2.2.2.2.2.2.2.2.2.2.2.2.2.2.2.2.2.2.2.2.2.2.2.2.2.2.2.2.2.2.2.2.2.2.2.2.2.2.2.2.2.2.2.2.2.2.2.1, h.2.2.2.2.2.2.2.2.2.2.2.2.2.2.2.2.2.2.2.2.2.2.2.2.2.2.2.2.2.2.2.2.2.2.2.2.2.2.2.2.2.2.2.2.2.2.2.2.2.2.2.2.2.2.2.2.2.2.2.2.2.2.2.2.2.2.2.2.2.2.2.2.1, h.2.2.2.2.2.2.2.2.2.2.2.2.2.2.2.2.2.2.2.2.2.2.2.2.2.2.2.2.2.2.2.2.2.2.2.2.2.2.2.2.2.2.2.2.2.2.2.2.2.2.2.2.2.2.2.2.2.2.2.2.2.2.2.2.2.2.2.2.2.2.2.2.2.1, h.2.2.2.2.2.2.2.2.2.2.2.2.2.2.2.2.2.2.2.2.2.2.2.2.2.2.2.2.2.2.2.2.2.2.2.2.2.2.2.2.2.2.2.2.2.2.2.2.2.2.2.2.2.2.2.2.2.2.2.2.2.2.2.2.2.2.2.2.2.2.2.2.2.2.1, h.2.2.2.2.2.2.2.2.2.2.2.2.2.2.2.2.2.2.2.2.2.2.2.2.2.2.2.2.2.2.2.2.2.2.2.2.2.2.2.2.2.2.2.2.2.2.2.2.2.2.2.2.2.2.2.2.2.2.2.2.2.2.2.2.2.2.2.2.2.2.2.2.2.2.2.1, h.2.2.2.2.2.2.2.2.2.2.2.2.2.2.2.2.2.2.2.2.2.2.2.2.2.2.2.2.2.2.2.2.2.2.2.2.2.2.2.2.2.2.2.2.2.2.2.2.2.2.2.2.2.2.2.2.2.2.2.2.2.2.2.2.2.2.2.2.2.2.2.2.2.2.2.2.1, h.2.2.2.2.2.2.2.2.2.2.2.2.2.2.2.2.2.2.2.2.2.2.2.2.2.2.2.2.2.2.2.2.2.2.2.2.2.2.2.2.2.2.2.2.2.2.2.2.2.2.2.2.2.2.2.2.2.2.2.2.2.2.2.2.2.2.2.2.2.2.2.2.2.2.2.2.2.1, h.2.2.2.2.2.2.2.2.2.2.2.2.2.2.2.2.2.2.2.2.2.2.2.2.2.2.2.2.2.2.2.2.2.2.2.2.2.2.2.2.2.2.2.2.2.2.2.2.2.2.2.2.2.2.2.2.2.2.2.2.2.2.2.2.2.2.2.2.2.2.2.2.2.2.2.2.2.2.1, h.2.2.2.2.2.2.2.2.2.2.2.2.2.2.2.2.2.2.2.2.2.2.2.2.2.2.2.2.2.2.2.2.2.2.2.2.2.2.2.2.2.2.2.2.2.2.2.2.2.2.2.2.2.2.2.2.2.2.2.2.2.2.2.2.2.2.2.2.2.2.2.2.2.2.2.2.2.2.2.1, h.2.2.2.2.2.2.2.2.2.2.2.2.2.2.2.2.2.2.2.2.2.2.2.2.2.2.2.2.2.2.2.2.2.2.2.2.2.2.2.2.2.2.2.2.2.2.2.2.2.2.2.2.2.2.2.2.2.2.2.2.2.2.2.2.2.2.2.2.2.2.2.2.2.2.2.2.2.2.2.2.1, h.2.2.2.2.2.2.2.2.2.2.2.2.2.2.2.2.2.2.2.2.2.2.2.2.2.2.2.2.2.2.2.2.2.2.2.2.2.2.2.2.2.2.2.2.2.2.2.2.2.2.2.2.2.2.2.2.2.2.2.2.2.2.2.2.2.2.2.2.2.2.2.2.2.2.2.2.2.2.2.2.2.1, h.2.2.2.2.2.2.2.2.2.2.2.2.2.2.2.2.2.2.2.2.2.2.2.2.2.2.2.2.2.2.2.2.2.2.2.2.2.2.2.2.2.2.2.2.2.2.2.2.2.2.2.2.2.2.2.2.2.2.2.2.2.2.2.2.2.2.2.2.2.2.2.2.2.2.2.2.2.2.2.2.2.2.1, h.2.2.2.2.2.2.2.2.2.2.2.2.2.2.2.2.2.2.2.2.2.2.2.2.2.2.2.2.2.2.2.2.2.2.2.2.2.2.2.2.2.2.2.2.2.2.2.2.2.2.2.2.2.2.2.2.2.2.2.2.2.2.2.2.2.2.2.2.2.2.2.2.2.2.2.2.2.2.2.2.2.2.2.1, h.2.2.2.2.2.2.2.2.2.2.2.2.2.2.2.2.2.2.2.2.2.2.2.2.2.2.2.2.2.2.2.2.2.2.2.2.2.2.2.2.2.2.2.2.2.2.2.2.2.2.2.2.2.2.2.2.2.2.2.2.2.2.2.2.2.2.2.2.2.2.2.2.2.2.2.2.2.2.2.2.2.2.2.2.1, h.2.2.2.2.2.2.2.2.2.2.2.2.2.2.2.2.2.2.2.2.2.2.2.2.2.2.2.2.2.2.2.2.2.2.2.2.2.2.2.2.2.2.2.2.2.2.2.2.2.2.2.2.2.2.2.2.2.2.2.2.2.2.2.2.2.2.2.2.2.2.2.2.2.2.2.2.2.2.2.2.2.2.2.2.2.1, h.2.2.2.2.2.2.2.2.2.2.2.2.2.2.2.2.2.2.2.2.2.2.2.2.2.2.2.2.2.2.2.2.2.2.2.2.2.2.2.2.2.2.2.2.2.2.2.2.2.2.2.2.2.2.2.2.2.2.2.2.2.2.2.2.2.2.2.2.2.2.2.2.2.2.2.2.2.2.2.2.2.2.2.2.2.2.1, h.2.2.2.2.2.2.2.2.2.2.2.2.2.2.2.2.2.2.2.2.2.2.2.2.2.2.2.2.2.2.2.2.2.2.2.2.2.2.2.2.2.2.2.2.2.2.2.2.2.2.2.2.2.2.2.2.2.2.2.2.2.2.2.2.2.2.2.2.2.2.2.2.2.2.2.2.2.2.2.2.2.2.2.2.2.2.2.1, h.2.2.2.2.2.2.2.2.2.2.2.2.2.2.2.2.2.2.2.2.2.2.2.2.2.2.2.2.2.2.2.2.2.2.2.2.2.2.2.2.2.2.2.2.2.2.2.2.2.2.2.2.2.2.2.2.2.2.2.2.2.2.2.2.2.2.2.2.2.2.2.2.2.2.2.2.2.2.2.2.2.2.2.2.2.2.2.2.1, h.2.2.2.2.2.2.2.2.2.2.2.2.2.2.2.2.2.2.2.2.2.2.2.2.2.2.2.2.2.2.2.2.2.2.2.2.2.2.2.2.2.2.2.2.2.2.2.2.2.2.2.2.2.2.2.2.2.2.2.2.2.2.2.2.2.2.2.2.2.2.2.2.2.2.2.2.2.2.2.2.2.2.2.2.2.2.2.2.2.1, h.2.2.2.2.2.2.2.2.2.2.2.2.2.2.2.2.2.2.2.2.2.2.2.2.2.2.2.2.2.2.2.2.2.2.2.2.2.2.2.2.2.2.2.2.2.2.2.2.2.2.2.2.2.2.2.2.2.2.2.2.2.2.2.2.2.2.2.2.2.2.2.2.2.2.2.2.2.2.2.2.2.2.2.2.2.2.2.2.2.2.1, h.2.2.2.2.2.2.2.2.2.2.2.2.2.2.2.2.2.2.2.2.2.2.2.2.2.2.2.2.2.2.2.2.2.2.2.2.2.2.2.2.2.2.2.2.2.2.2.2.2.2.2.2.2.2.2.2.2.2.2.2.2.2.2.2.2.2.2.2.2.2.2.2.2.2.2.2.2.2.2.2.2.2.2.2.2.2.2.2.2.2.2.1, h.2.2.2.2.2.2.2.2.2.2.2.2.2.2.2.2.2.2.2.2.2.2.2.2.2.2.2.2.2.2.2.2.2.2.2.2.2.2.2.2.2.2.2.2.2.2.2.2.2.2.2.2.2.2.2.2.2.2.2.2.2.2.2.2.2.2.2.2.2.2.2.2.2.2.2.2.2.2.2.2.2.2.2.2.2.2.2.2.2.2.2.2.1, h.2.2.2.2.2.2.2.2.2.2.2.2.2.2.2.2.2.2.2.2.2.2.2.2.2.2.2.2.2.2.2.2.2.2.2.2.2.2.2.2.2.2.2.2.2.2.2.2.2.2.2.2.2.2.2.2.2.2.2.2.2.2.2.2.2.2.2.2.2.2.2.2.2.2.2.2.2.2.2.2.2.2.2.2.2.2.2.2.2.2.2.2.2.1, h.2.2.2.2.2.2.2.2.2.2.2.2.2.2.2.2.2.2.2.2.2.2.2.2.2.2.2.2.2.2.2.2.2.2.2.2.2.2.2.2.2.2.2.2.2.2.2.2.2.2.2.2.2.2.2.2.2.2.2.2.2.2.2.2.2.2.2.2.2.2.2.2.2.2.2.2.2.2.2.2.2.2.2.2.2.2.2.2.2.2.2.2.2.2.1, h.2.2.2.2.2.2.2.2.2.2.2.2.2.2.2.2.2.2.2.2.2.2.2.2.2.2.2.2.2.2.2.2.2.2.2.2.2.2.2.2.2.2.2.2.2.2.2.2.2.2.2.2.2.2.2.2.2.2.2.2.2.2.2.2.2.2.2.2.2.2.2.2.2.2.2.2.2.2.2.2.2.2.2.2.2.2.2.2.2.2.2.2.2.2.2.1, h.2.2.2.2.2.2.2.2.2.2.2.2.2.2.2.2.2.2.2.2.2.2.2.2.2.2.2.2.2.2.2.2.2.2.2.2.2.2.2.2.2.2.2.2.2.2.2.2.2.2.2.2.2.2.2.2.2.2.2.2.2.2.2.2.2.2.2.2.2.2.2.2.2.2.2.2.2.2.2.2.2.2.2.2.2.2.2.2.2.2.2.2.2.2.2.2.1, h.2.2.2.2.2.2.2.2.2.2.2.2.2.2.2.2.2.2.2.2.2.2.2.2.2.2.2.2.2.2.2.2.2.2.2.2.2.2.2.2.2.2.2.2.2.2.2.2.2.2.2.2.2.2.2.2.2.2.2.2.2.2.2.2.2.2.2.2.2.2.2.2.2.2.2.2.2.2.2.2.2.2.2.2.2.2.2.2.2.2.2.2.2.2.2.2.2.1, h.2.2.2.2.2.2.2.2.2.2.2.2.2.2.2.2.2.2.2.2.2.2.2.2.2.2.2.2.2.2.2.2.2.2.2.2.2.2.2.2.2.2.2.2.2.2.2.2.2.2.2.2.2.2.2.2.2.2.2.2.2.2.2.2.2.2.2.2.2.2.2.2.2.2.2.2.2.2.2.2.2.2.2.2.2.2.2.2.2.2.2.2.2.2.2.2.2.2.1, h.2.2.2.2.2.2.2.2.2.2.2.2.2.2.2.2.2.2.2.2.2.2.2.2.2.2.2.2.2.2.2.2.2.2.2.2.2.2.2.2.2.2.2.2.2.2.2.2.2.2.2.2.2.2.2.2.2.2.2.2.2.2.2.2.2.2.2.2.2.2.2.2.2.2.2.2.2.2.2.2.2.2.2.2.2.2.2.2.2.2.2.2.2.2.2.2.2.2.2.1, h.2.2.2.2.2.2.2.2.2.2.2.2.2.2.2.2.2.2.2.2.2.2.2.2.2.2.2.2.2.2.2.2.2.2.2.2.2.2.2.2.2.2.2.2.2.2.2.2.2.2.2.2.2.2.2.2.2.2.2.2.2.2.2.2.2.2.2.2.2.2.2.2.2.2.2.2.2.2.2.2.2.2.2.2.2.2.2.2.2.2.2.2.2.2.2.2.2.2.2.2.1, h.2.2.2.2.2.2.2.2.2.2.2.2.2.2.2.2.2.2.2.2.2.2.2.2.2.2.2.2.2.2.2.2.2.2.2.2.2.2.2.2.2.2.2.2.2.2.2.2.2.2.2.2.2.2.2.2.2.2.2.2.2.2.2.2.2.2.2.2.2.2.2.2.2.2.2.2.2.2.2.2.2.2.2.2.2.2.2.2.2.2.2.2.2.2.2.2.2.2.2.2.2.1, h.2.2.2.2.2.2.2.2.2.2.2.2.2.2.2.2.2.2.2.2.2.2.2.2.2.2.2.2.2.2.2.2.2.2.2.2.2.2.2.2.2.2.2.2.2.2.2.2.2.2.2.2.2.2.2.2.2.2.2.2.2.2.2.2.2.2.2.2.2.2.2.2.2.2.2.2.2.2.2.2.2.2.2.2.2.2.2.2.2.2.2.2.2.2.2.2.2.2.2.2.2.2.1, h.2.2.2.2.2.2.2.2.2.2.2.2.2.2.2.2.2.2.2.2.2.2.2.2.2.2.2.2.2.2.2.2.2.2.2.2.2.2.2.2.2.2.2.2.2.2.2.2.2.2.2.2.2.2.2.2.2.2.2.2.2.2.2.2.2.2.2.2.2.2.2.2.2.2.2.2.2.2.2.2.2.2.2.2.2.2.2.2.2.2.2.2.2.2.2.2.2.2.2.2.2.2.2.1, h.2.2.2.2.2.2.2.2.2.2.2.2.2.2.2.2.2.2.2.2.2.2.2.2.2.2.2.2.2.2.2.2.2.2.2.2.2.2.2.2.2.2.2.2.2.2.2.2.2.2.2.2.2.2.2.2.2.2.2.2.2.2.2.2.2.2.2.2.2.2.2.2.2.2.2.2.2.2.2.2.2.2.2.2.2.2.2.2.2.2.2.2.2.2.2.2.2.2.2.2.2.2.2.2.1, h.2.2.2.2.2.2.2.2.2.2.2.2.2.2.2.2.2.2.2.2.2.2.2.2.2.2.2.2.2.2.2.2.2.2.2.2.2.2.2.2.2.2.2.2.2.2.2.2.2.2.2.2.2.2.2.2.2.2.2.2.2.2.2.2.2.2.2.2.2.2.2.2.2.2.2.2.2.2.2.2.2.2.2.2.2.2.2.2.2.2.2.2.2.2.2.2.2.2.2.2.2.2.2.2.2.1, h.2.2.2.2.2.2.2.2.2.2.2.2.2.2.2.2.2.2.2.2.2.2.2.2.2.2.2.2.2.2.2.2.2.2.2.2.2.2.2.2.2.2.2.2.2.2.2.2.2.2.2.2.2.2.2.2.2.2.2.2.2.2.2.2.2.2.2.2.2.2.2.2.2.2.2.2.2.2.2.2.2.2.2.2.2.2.2.2.2.2.2.2.2.2.2.2.2.2.2.2.2.2.2.2.2.2.1, h.2.2.2.2.2.2.2.2.2.2.2.2.2.2.2.2.2.2.2.2.2.2.2.2.2.2.2.2.2.2.2.2.2.2.2.2.2.2.2.2.2.2.2.2.2.2.2.2.2.2.2.2.2.2.2.2.2.2.2.2.2.2.2.2.2.2.2.2.2.2.2.2.2.2.2.2.2.2.2.2.2.2.2.2.2.2.2.2.2.2.2.2.2.2.2.2.2.2.2.2.2.2.2.2.2.2.2, fun _ h => by cases h⟩
  exact hall (op, e) he
section DxR
variable {c : ByteArray} {p : Nat}
theorem dx_bind {α β : Type} {r : Jvm.ClassFile.Decoder α} {g : α → Jvm.ClassFile.Decoder β} {a : α} {p2 : Nat} (h : Jvm.ClassFile.Reader.runAt r c p = .ok (a, p2)) : Jvm.ClassFile.Reader.runAt (r >>= g) c p = Jvm.ClassFile.Reader.runAt (g a) c p2 := by
  show (Jvm.ClassFile.Reader.runAt r c p >>= fun q => Jvm.ClassFile.Reader.runAt (g q.1) c q.2) = _
  rw [h] <;> rfl
theorem dx_map {α β : Type} {r : Jvm.ClassFile.Decoder α} {g : α → β} {a : α} {p2 : Nat} (h : Jvm.ClassFile.Reader.runAt r c p = .ok (a, p2)) : Jvm.ClassFile.Reader.runAt (g <$> r) c p = .ok (g a, p2) := by
  show (Jvm.ClassFile.Reader.runAt r c p >>= fun q => Except.ok (g q.1, q.2)) = _
  rw [h] <;> rfl
theorem dx_u1 {b : UInt8} (h : c.data.toList[p]? = some b) : Jvm.ClassFile.Reader.runAt (Jvm.ClassFile.Reader.u1 : Jvm.ClassFile.Decoder Nat) c p = .ok (b.toNat, p + 1) := by
  obtain ⟨h1, h2⟩ := List.getElem?_eq_some_iff.mp h
  have hp : p < c.size := h1
  have hb : c[p] = b := h2
  subst hb
  show Jvm.ClassFile.Reader.runAt (dite (p < c.size) (fun h => ((do set (p + 1); Pure.pure (c[p]'h).toNat) : Jvm.ClassFile.Decoder Nat)) (fun _ => throw (Jvm.ClassFile.HasTruncated.truncated p))) c p = _
  rw [dif_pos hp] <;> rfl
theorem dx_s1 {b : UInt8} (h : c.data.toList[p]? = some b) : Jvm.ClassFile.Reader.runAt (Jvm.ClassFile.Reader.s1 : Jvm.ClassFile.Decoder Int) c p = .ok (Jvm.ClassFile.Reader.signed 8 b.toNat, p + 1) := dx_map (dx_u1 h)
theorem dx_u2 {b d : UInt8} (h : c.data.toList[p]? = some b) (h2 : c.data.toList[p + 1]? = some d) : Jvm.ClassFile.Reader.runAt (Jvm.ClassFile.Reader.u2 : Jvm.ClassFile.Decoder Nat) c p = .ok (b.toNat * 256 + d.toNat, p + 2) :=
  (dx_bind (dx_u1 h)).trans ((dx_bind (dx_u1 h2)).trans rfl)
theorem dx_s2 {b d : UInt8} (h : c.data.toList[p]? = some b) (h2 : c.data.toList[p + 1]? = some d) : Jvm.ClassFile.Reader.runAt (Jvm.ClassFile.Reader.s2 : Jvm.ClassFile.Decoder Int) c p = .ok (Jvm.ClassFile.Reader.signed 16 (b.toNat * 256 + d.toNat), p + 2) := dx_map (dx_u2 h h2)
theorem dx_dec {pc : Nat} {i : Instr} {n : Nat} (h : Jvm.ClassFile.Reader.runAt (Jvm.ClassFile.Decoder.instr pc) c pc = .ok (i, pc + n)) : decode c pc = .ok (i, n) := by
  show (Jvm.ClassFile.Reader.runAt (Jvm.ClassFile.Decoder.instr pc) c pc >>= fun q => Except.ok (q.1, q.2 - pc)) = _
  rw [h]
  show Except.ok (i, pc + n - pc) = Except.ok (i, n)
  rw [Nat.add_sub_cancel_left]
end DxR
noncomputable def dxE (e : Nat × (Int → Instr)) (r : List UInt8) : Option (Instr × Nat) := match e.1, r with
  | 0, _ => some (e.2 0, 1)
  | 1, x :: _ => some (e.2 (Int.ofNat x.toNat), 2)
  | 2, x :: _ => some (e.2 (Jvm.ClassFile.Reader.signed 8 x.toNat), 2)
  | 3, x :: y :: _ => some (e.2 (Int.ofNat (x.toNat * 256 + y.toNat)), 3)
  | 4, x :: y :: _ => some (e.2 (Jvm.ClassFile.Reader.signed 16 (x.toNat * 256 + y.toNat)), 3)
  | 5, x :: y :: _ => some (.iinc x.toNat (Jvm.ClassFile.Reader.signed 8 y.toNat), 3)
  | _, _ => none
theorem dxE_ok {f : Nat → Nat → Jvm.ClassFile.Decoder Instr} (hf : ∀ pc, Jvm.ClassFile.Decoder.instr pc = Jvm.ClassFile.Reader.u1 >>= f pc) {c : ByteArray} {pc : Nat} {b : UInt8} {r : List UInt8} {e : Nat × (Int → Instr)} {q : Instr × Nat} (hd : c.data.toList.drop pc = b :: r) (ho : dxOk (f pc b.toNat) e) (h : dxE e r = some q) : decode c pc = .ok q := by
  have hat : ∀ k x, (b :: r)[k]? = some x → c.data.toList[pc + k]? = some x := fun k x hx => by
    rw [← hd, List.getElem?_drop] at hx
    exact hx
  have h0 : c.data.toList[pc]? = some b := hat 0 b rfl
  obtain ⟨kd, F⟩ := e
  obtain ⟨i, n⟩ := q
  refine dx_dec ?_
  rw [hf, dx_bind (dx_u1 h0)]
  unfold dxE at h
  unfold dxOk at ho
  dsimp only at h ho
  split at h
  · cases h
    rw [show f pc b.toNat = Pure.pure (F 0) from ho] <;> rfl
  · rename_i x _
    cases h
    rw [show f pc b.toNat = _ from ho, dx_bind (dx_u1 (hat 1 x rfl))] <;> rfl
  · rename_i x _
    cases h
    rw [show f pc b.toNat = _ from ho, dx_bind (dx_s1 (hat 1 x rfl))] <;> rfl
  · rename_i x y _
    cases h
    rw [show f pc b.toNat = _ from ho, dx_bind (dx_u2 (hat 1 x rfl) (hat 2 y rfl))] <;> rfl
  · rename_i x y _
    cases h
    rw [show f pc b.toNat = _ from ho, dx_bind (dx_s2 (hat 1 x rfl) (hat 2 y rfl))] <;> rfl
  · rename_i x y _
    cases h
    rw [show f pc b.toNat = _ from ho, dx_bind (dx_u1 (hat 1 x rfl)), dx_bind (dx_s1 (hat 2 y rfl))] <;> rfl
  · cases h
noncomputable def dxZ (c : ByteArray) (z : Nat × Instr × Nat) (bs : List UInt8) : Bool := match bs with
  | [] => false
  | b :: r => (match dxF dxTb b.toNat with
    | some e => (match dxE e r with
      | some q => dxCo (Nat.beq q.2 z.2.2) (decide (q.1 = z.2.1)) false
      | none => false)
    | none => decide (decode c z.1 = .ok (z.2.1, z.2.2)))
theorem dxZ_ok {c : ByteArray} {z : Nat × Instr × Nat} {bs : List UInt8} (hd : c.data.toList.drop z.1 = bs) (h : dxZ c z bs = true) : decode c z.1 = .ok (z.2.1, z.2.2) := by
  obtain ⟨f, hf, ha⟩ := dxArms
  unfold dxZ at h
  split at h
  · cases h
  · rename_i b r
    split at h
    · rename_i e he
      split at h
      · rename_i q hq
        obtain ⟨h1, h2⟩ := dxCn.mp h
        have h1 := Nat.eq_of_beq_eq_true h1
        have h2 := of_decide_eq_true h2
        rw [← h1, ← h2]
        exact dxE_ok hf hd (ha _ _ (dxF_mem he) _) hq
      · cases h
    · exact of_decide_eq_true h
noncomputable def dxN (n : Nat) : List UInt8 → (List UInt8 → Bool) → Bool := @Nat.rec (fun _ => List UInt8 → (List UInt8 → Bool) → Bool) (fun bs k => k bs) (fun _ ih bs k => @List.rec UInt8 (fun _ => Bool) (k []) (fun _ r _ => ih r k) bs) n
theorem dxN_ok : ∀ {n : Nat} {bs : List UInt8} {k : List UInt8 → Bool}, dxN n bs k = k (bs.drop n)
  | 0, _, _ => rfl
  | n + 1, [], _ => by rw [List.drop_nil]; rfl
  | n + 1, _ :: r, k => dxN_ok (n := n) (bs := r) (k := k)
noncomputable def dxP (n : Nat) (k : Nat → Bool) : Bool := @Nat.rec (fun _ => Bool) (k 0) (fun m _ => k (Nat.succ m)) n
theorem dxP_ok {n : Nat} {k : Nat → Bool} : dxP n k = k n := by cases n <;> rfl
noncomputable def dxW (c : ByteArray) (t : List (Nat × Instr × Nat)) : Nat → List UInt8 → Bool := @List.rec (Nat × Instr × Nat) (fun _ => Nat → List UInt8 → Bool) (fun _ _ => true) (fun z _ ih pc bs => dxCo (dxCo (Nat.beq z.1 pc) (dxZ c z bs) false) (dxN z.2.2 bs (fun bs => dxP (pc + z.2.2) (fun pc => ih pc bs))) false) t
theorem dxW_ok {c : ByteArray} : ∀ {t : List (Nat × Instr × Nat)} {pc : Nat} {bs : List UInt8}, c.data.toList.drop pc = bs → dxW c t pc bs = true → ∀ z ∈ t, decode c z.1 = .ok (z.2.1, z.2.2)
  | [], _, _, _, _ => fun z hz => by cases hz
  | z :: t, pc, bs, hd, h => by
    have h : dxCo (dxCo (Nat.beq z.1 pc) (dxZ c z bs) false) (dxN z.2.2 bs (fun bs => dxP (pc + z.2.2) (fun pc => dxW c t pc bs))) false = true := h
    obtain ⟨h1, h2⟩ := dxCn.mp h
    obtain ⟨h3, h4⟩ := dxCn.mp h1
    have h3 := Nat.eq_of_beq_eq_true h3
    rw [dxN_ok, dxP_ok] at h2
    intro y hy
    rcases List.mem_cons.mp hy with e | hy
    · rw [e]
      exact dxZ_ok (by rw [h3]; exact hd) h4
    · refine dxW_ok (pc := pc + z.2.2) (bs := bs.drop z.2.2) ?_ h2 y hy
      rw [← hd, List.drop_drop]
theorem dx_all {c : ByteArray} {t : List (Nat × Instr × Nat)} (h : dxW c t 0 c.data.toList = true) : ∀ z ∈ t, decode c z.1 = .ok (z.2.1, z.2.2) := dxW_ok (pc := 0) rfl h
