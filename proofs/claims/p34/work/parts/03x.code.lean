-- lengths and targets
noncomputable def qlen (i : Instr) : Nat := match i with
  | .iload _ | .lload _ | .aload _ | .istore _ | .lstore _ | .bipush _ | .ldc _ | .newarray _ => 2
  | .sipush _ | .iinc _ _ | .ldc_w _ | .ldc2_w _ | .goto _ | .ifCond _ _ | .if_icmp _ _ | .if_acmp _ _ | .getfield _ | .putfield _ | .invokestatic _ | .invokevirtual _ | .invokespecial _ | .new _ | .anewarray _ => 3
  | .multianewarray _ _ => 4
  | _ => 1
noncomputable def qok (pc : Nat) (i : Instr) (len : Nat) : Bool := match i with
  | .tableswitch d lo hi offs => decide (hi + 1 = lo + offs.size) && decide (-2147483648 ≤ lo) && decide (hi < 2147483648) && decide (0 ≤ (pc : Int) + d) && offs.toList.all (fun o => decide (0 ≤ (pc : Int) + o))
  | .goto off | .ifCond _ off | .if_icmp _ off | .if_acmp _ off => Nat.beq len 3 && decide (0 ≤ (pc : Int) + off)
  | .iconst c => Nat.beq len 1 && decide (-1 ≤ c ∧ c ≤ 5)
  | .bipush c => Nat.beq len 2 && decide (-128 ≤ c ∧ c ≤ 127)
  | .sipush c => Nat.beq len 3 && decide (-32768 ≤ c ∧ c ≤ 32767)
  | .iinc _ c => Nat.beq len 3 && decide (-32768 ≤ c ∧ c ≤ 32767)
  | i => Nat.beq len (qlen i)
-- the decoder, opened once
noncomputable def qbt (b : ByteArray) (p : Nat) : Option Nat := if h : p < b.size then some (b[p]'h).toNat else none
theorem qbind {α β : Type} {m : Jvm.ClassFile.Decoder α} {f : α → Jvm.ClassFile.Decoder β} {b : ByteArray} {p q : Nat} {x : α} (h : m b p = .ok (x, q)) : (m >>= f) b p = f x b q := by
  have e : (m >>= f) b p = Except.bind (m b p) (fun r => f r.1 b r.2) := rfl
  rw [e, h]; rfl
theorem qmap {α β : Type} {m : Jvm.ClassFile.Decoder α} {f : α → β} {b : ByteArray} {p q : Nat} {x : α} (h : m b p = .ok (x, q)) : (f <$> m : Jvm.ClassFile.Decoder β) b p = .ok (f x, q) := by
  have e : (f <$> m : Jvm.ClassFile.Decoder β) b p = Except.bind (m b p) (fun r => .ok (f r.1, r.2)) := rfl
  rw [e, h]; rfl
theorem qu1 {b : ByteArray} {p x : Nat} (h : qbt b p = some x) : (Jvm.ClassFile.Reader.u1 : Jvm.ClassFile.Decoder Nat) b p = .ok (x, p + 1) := by
  unfold qbt at h
  by_cases c : p < b.size
  · rw [dif_pos c] at h
    cases h
    have e : (Jvm.ClassFile.Reader.u1 : Jvm.ClassFile.Decoder Nat) b p = (dite (p < b.size) (fun h => (do set (p + 1); Pure.pure (b[p]'h).toNat : Jvm.ClassFile.Decoder Nat)) (fun _ => throw (Jvm.ClassFile.HasTruncated.truncated p))) b p := rfl
    rw [e, dif_pos c]; rfl
  · rw [dif_neg c] at h; cases h
theorem qu2 {b : ByteArray} {p x y : Nat} (h : qbt b p = some x) (h2 : qbt b (p + 1) = some y) : (Jvm.ClassFile.Reader.u2 : Jvm.ClassFile.Decoder Nat) b p = .ok (x * 256 + y, p + 2) := by
  have e : (Jvm.ClassFile.Reader.u2 : Jvm.ClassFile.Decoder Nat) = (Jvm.ClassFile.Reader.u1 >>= fun hi => Jvm.ClassFile.Reader.u1 >>= fun lo => Pure.pure (hi * 256 + lo)) := rfl
  rw [e, qbind (qu1 h), qbind (qu1 h2)]; rfl
noncomputable def qBody {m : Jvm.ClassFile.Decoder Nat} {i : Jvm.ClassFile.Decoder Instr} {f : Nat → Jvm.ClassFile.Decoder Instr} (_ : i = m >>= f) : Nat → Jvm.ClassFile.Decoder Instr := f
noncomputable def qdb (pc : Nat) : Nat → Jvm.ClassFile.Decoder Instr := qBody (m := Jvm.ClassFile.Reader.u1) (i := Jvm.ClassFile.Decoder.instr pc) rfl
theorem qdec {b : ByteArray} {pc len : Nat} {i : Instr} (h : Jvm.ClassFile.Decoder.instr pc b pc = .ok (i, pc + len)) : decode b pc = .ok (i, len) := by
  have e : decode b pc = Except.bind (Jvm.ClassFile.Decoder.instr pc b pc) (fun r => .ok (r.1, r.2 - pc)) := rfl
  rw [e, h]
  show Except.ok (i, pc + len - pc) = _
  rw [Nat.add_sub_cancel_left]
theorem qin0 {b : ByteArray} {pc op : Nat} (h : qbt b pc = some op) : Jvm.ClassFile.Decoder.instr pc b pc = qdb pc op b (pc + 1) := qbind (qu1 h)
theorem qd_0 {b : ByteArray} {pc op : Nat} {i : Instr} (h : qbt b pc = some op) (ho : qdb pc op = Pure.pure i) : decode b pc = .ok (i, 1) := qdec (by rw [qin0 h, ho]; rfl)
theorem qd_1 {b : ByteArray} {pc op a : Nat} {f : Nat → Instr} (h : qbt b pc = some op) (h1 : qbt b (pc + 1) = some a) (ho : qdb pc op = (Jvm.ClassFile.Reader.u1 >>= fun v => Pure.pure (f v))) : decode b pc = .ok (f a, 2) := qdec (by rw [qin0 h, ho, qbind (qu1 h1)]; rfl)
theorem qd_s {b : ByteArray} {pc op a : Nat} {f : Int → Instr} (h : qbt b pc = some op) (h1 : qbt b (pc + 1) = some a) (ho : qdb pc op = (Jvm.ClassFile.Reader.s1 >>= fun v => Pure.pure (f v))) : decode b pc = .ok (f (Jvm.ClassFile.Reader.signed 8 a), 2) := qdec (by
  have e : (Jvm.ClassFile.Reader.s1 : Jvm.ClassFile.Decoder Int) b (pc + 1) = .ok (Jvm.ClassFile.Reader.signed 8 a, pc + 1 + 1) := qmap (qu1 h1)
  rw [qin0 h, ho, qbind e]; rfl)
theorem qd_S {b : ByteArray} {pc op a c : Nat} {f : Int → Instr} (h : qbt b pc = some op) (h1 : qbt b (pc + 1) = some a) (h2 : qbt b (pc + 2) = some c) (ho : qdb pc op = (Jvm.ClassFile.Reader.s2 >>= fun v => Pure.pure (f v))) : decode b pc = .ok (f (Jvm.ClassFile.Reader.signed 16 (a * 256 + c)), 3) := qdec (by
  have e : (Jvm.ClassFile.Reader.s2 : Jvm.ClassFile.Decoder Int) b (pc + 1) = .ok (Jvm.ClassFile.Reader.signed 16 (a * 256 + c), pc + 1 + 2) := qmap (qu2 h1 h2)
  rw [qin0 h, ho, qbind e]; rfl)
theorem qd_2 {b : ByteArray} {pc op a c : Nat} {f : Nat → Instr} (h : qbt b pc = some op) (h1 : qbt b (pc + 1) = some a) (h2 : qbt b (pc + 2) = some c) (ho : qdb pc op = (Jvm.ClassFile.Reader.u2 >>= fun v => Pure.pure (f v))) : decode b pc = .ok (f (a * 256 + c), 3) := qdec (by
  rw [qin0 h, ho, qbind (qu2 h1 h2)]; rfl)
theorem qd_i {b : ByteArray} {pc op a c : Nat} {f : Nat → Int → Instr} (h : qbt b pc = some op) (h1 : qbt b (pc + 1) = some a) (h2 : qbt b (pc + 2) = some c) (ho : qdb pc op = (Jvm.ClassFile.Reader.u1 >>= fun v => Jvm.ClassFile.Reader.s1 >>= fun u => Pure.pure (f v u))) : decode b pc = .ok (f a (Jvm.ClassFile.Reader.signed 8 c), 3) := qdec (by
  have e : (Jvm.ClassFile.Reader.s1 : Jvm.ClassFile.Decoder Int) b (pc + 1 + 1) = .ok (Jvm.ClassFile.Reader.signed 8 c, pc + 1 + 1 + 1) := qmap (qu1 h2)
  rw [qin0 h, ho, qbind (qu1 h1), qbind e]; rfl)
theorem qb_1 (pc : Nat) : qdb pc 1 = Pure.pure (Instr.aconst_null) := rfl
theorem qb_2 (pc : Nat) : qdb pc 2 = Pure.pure (Instr.iconst (-1)) := rfl
theorem qb_3 (pc : Nat) : qdb pc 3 = Pure.pure (Instr.iconst 0) := rfl
theorem qb_4 (pc : Nat) : qdb pc 4 = Pure.pure (Instr.iconst 1) := rfl
theorem qb_5 (pc : Nat) : qdb pc 5 = Pure.pure (Instr.iconst 2) := rfl
theorem qb_6 (pc : Nat) : qdb pc 6 = Pure.pure (Instr.iconst 3) := rfl
theorem qb_7 (pc : Nat) : qdb pc 7 = Pure.pure (Instr.iconst 4) := rfl
theorem qb_8 (pc : Nat) : qdb pc 8 = Pure.pure (Instr.iconst 5) := rfl
theorem qb_9 (pc : Nat) : qdb pc 9 = Pure.pure (Instr.lconst 0) := rfl
theorem qb_10 (pc : Nat) : qdb pc 10 = Pure.pure (Instr.lconst 1) := rfl
theorem qb_16 (pc : Nat) : qdb pc 16 = (Jvm.ClassFile.Reader.s1 >>= fun v => Pure.pure (Instr.bipush v)) := rfl
theorem qb_17 (pc : Nat) : qdb pc 17 = (Jvm.ClassFile.Reader.s2 >>= fun v => Pure.pure (Instr.sipush v)) := rfl
theorem qb_18 (pc : Nat) : qdb pc 18 = (Jvm.ClassFile.Reader.u1 >>= fun v => Pure.pure (Instr.ldc v)) := rfl
theorem qb_19 (pc : Nat) : qdb pc 19 = (Jvm.ClassFile.Reader.u2 >>= fun v => Pure.pure (Instr.ldc_w v)) := rfl
theorem qb_20 (pc : Nat) : qdb pc 20 = (Jvm.ClassFile.Reader.u2 >>= fun v => Pure.pure (Instr.ldc2_w v)) := rfl
theorem qb_21 (pc : Nat) : qdb pc 21 = (Jvm.ClassFile.Reader.u1 >>= fun v => Pure.pure (Instr.iload v)) := rfl
theorem qb_22 (pc : Nat) : qdb pc 22 = (Jvm.ClassFile.Reader.u1 >>= fun v => Pure.pure (Instr.lload v)) := rfl
theorem qb_25 (pc : Nat) : qdb pc 25 = (Jvm.ClassFile.Reader.u1 >>= fun v => Pure.pure (Instr.aload v)) := rfl
theorem qb_26 (pc : Nat) : qdb pc 26 = Pure.pure (Instr.iload_n 0) := rfl
theorem qb_27 (pc : Nat) : qdb pc 27 = Pure.pure (Instr.iload_n 1) := rfl
theorem qb_28 (pc : Nat) : qdb pc 28 = Pure.pure (Instr.iload_n 2) := rfl
theorem qb_29 (pc : Nat) : qdb pc 29 = Pure.pure (Instr.iload_n 3) := rfl
theorem qb_30 (pc : Nat) : qdb pc 30 = Pure.pure (Instr.lload_n 0) := rfl
theorem qb_31 (pc : Nat) : qdb pc 31 = Pure.pure (Instr.lload_n 1) := rfl
theorem qb_32 (pc : Nat) : qdb pc 32 = Pure.pure (Instr.lload_n 2) := rfl
theorem qb_33 (pc : Nat) : qdb pc 33 = Pure.pure (Instr.lload_n 3) := rfl
theorem qb_42 (pc : Nat) : qdb pc 42 = Pure.pure (Instr.aload_n 0) := rfl
theorem qb_43 (pc : Nat) : qdb pc 43 = Pure.pure (Instr.aload_n 1) := rfl
theorem qb_44 (pc : Nat) : qdb pc 44 = Pure.pure (Instr.aload_n 2) := rfl
theorem qb_45 (pc : Nat) : qdb pc 45 = Pure.pure (Instr.aload_n 3) := rfl
theorem qb_46 (pc : Nat) : qdb pc 46 = Pure.pure (Instr.iaload) := rfl
theorem qb_47 (pc : Nat) : qdb pc 47 = Pure.pure (Instr.laload) := rfl
theorem qb_50 (pc : Nat) : qdb pc 50 = Pure.pure (Instr.aaload) := rfl
theorem qb_51 (pc : Nat) : qdb pc 51 = Pure.pure (Instr.baload) := rfl
theorem qb_54 (pc : Nat) : qdb pc 54 = (Jvm.ClassFile.Reader.u1 >>= fun v => Pure.pure (Instr.istore v)) := rfl
theorem qb_55 (pc : Nat) : qdb pc 55 = (Jvm.ClassFile.Reader.u1 >>= fun v => Pure.pure (Instr.lstore v)) := rfl
theorem qb_58 (pc : Nat) : qdb pc 58 = (Jvm.ClassFile.Reader.u1 >>= fun v => Pure.pure (Instr.astore v)) := rfl
theorem qb_59 (pc : Nat) : qdb pc 59 = Pure.pure (Instr.istore_n 0) := rfl
theorem qb_60 (pc : Nat) : qdb pc 60 = Pure.pure (Instr.istore_n 1) := rfl
theorem qb_61 (pc : Nat) : qdb pc 61 = Pure.pure (Instr.istore_n 2) := rfl
theorem qb_62 (pc : Nat) : qdb pc 62 = Pure.pure (Instr.istore_n 3) := rfl
theorem qb_63 (pc : Nat) : qdb pc 63 = Pure.pure (Instr.lstore_n 0) := rfl
theorem qb_64 (pc : Nat) : qdb pc 64 = Pure.pure (Instr.lstore_n 1) := rfl
theorem qb_65 (pc : Nat) : qdb pc 65 = Pure.pure (Instr.lstore_n 2) := rfl
theorem qb_66 (pc : Nat) : qdb pc 66 = Pure.pure (Instr.lstore_n 3) := rfl
theorem qb_75 (pc : Nat) : qdb pc 75 = Pure.pure (Instr.astore_n 0) := rfl
theorem qb_76 (pc : Nat) : qdb pc 76 = Pure.pure (Instr.astore_n 1) := rfl
theorem qb_77 (pc : Nat) : qdb pc 77 = Pure.pure (Instr.astore_n 2) := rfl
theorem qb_78 (pc : Nat) : qdb pc 78 = Pure.pure (Instr.astore_n 3) := rfl
theorem qb_79 (pc : Nat) : qdb pc 79 = Pure.pure (Instr.iastore) := rfl
theorem qb_80 (pc : Nat) : qdb pc 80 = Pure.pure (Instr.lastore) := rfl
theorem qb_83 (pc : Nat) : qdb pc 83 = Pure.pure (Instr.aastore) := rfl
theorem qb_84 (pc : Nat) : qdb pc 84 = Pure.pure (Instr.bastore) := rfl
theorem qb_87 (pc : Nat) : qdb pc 87 = Pure.pure (Instr.pop) := rfl
theorem qb_89 (pc : Nat) : qdb pc 89 = Pure.pure (Instr.dup) := rfl
theorem qb_92 (pc : Nat) : qdb pc 92 = Pure.pure (Instr.dup2) := rfl
theorem qb_96 (pc : Nat) : qdb pc 96 = Pure.pure (Instr.iadd) := rfl
theorem qb_97 (pc : Nat) : qdb pc 97 = Pure.pure (Instr.ladd) := rfl
theorem qb_100 (pc : Nat) : qdb pc 100 = Pure.pure (Instr.isub) := rfl
theorem qb_101 (pc : Nat) : qdb pc 101 = Pure.pure (Instr.lsub) := rfl
theorem qb_104 (pc : Nat) : qdb pc 104 = Pure.pure (Instr.imul) := rfl
theorem qb_105 (pc : Nat) : qdb pc 105 = Pure.pure (Instr.lmul) := rfl
theorem qb_108 (pc : Nat) : qdb pc 108 = Pure.pure (Instr.idiv) := rfl
theorem qb_109 (pc : Nat) : qdb pc 109 = Pure.pure (Instr.ldiv) := rfl
theorem qb_112 (pc : Nat) : qdb pc 112 = Pure.pure (Instr.irem) := rfl
theorem qb_116 (pc : Nat) : qdb pc 116 = Pure.pure (Instr.ineg) := rfl
theorem qb_120 (pc : Nat) : qdb pc 120 = Pure.pure (Instr.ishl) := rfl
theorem qb_121 (pc : Nat) : qdb pc 121 = Pure.pure (Instr.lshl) := rfl
theorem qb_122 (pc : Nat) : qdb pc 122 = Pure.pure (Instr.ishr) := rfl
theorem qb_123 (pc : Nat) : qdb pc 123 = Pure.pure (Instr.lshr) := rfl
theorem qb_124 (pc : Nat) : qdb pc 124 = Pure.pure (Instr.iushr) := rfl
theorem qb_125 (pc : Nat) : qdb pc 125 = Pure.pure (Instr.lushr) := rfl
theorem qb_126 (pc : Nat) : qdb pc 126 = Pure.pure (Instr.iand) := rfl
theorem qb_127 (pc : Nat) : qdb pc 127 = Pure.pure (Instr.land) := rfl
theorem qb_128 (pc : Nat) : qdb pc 128 = Pure.pure (Instr.ior) := rfl
theorem qb_129 (pc : Nat) : qdb pc 129 = Pure.pure (Instr.lor) := rfl
theorem qb_130 (pc : Nat) : qdb pc 130 = Pure.pure (Instr.ixor) := rfl
theorem qb_131 (pc : Nat) : qdb pc 131 = Pure.pure (Instr.lxor) := rfl
theorem qb_132 (pc : Nat) : qdb pc 132 = (Jvm.ClassFile.Reader.u1 >>= fun v => Jvm.ClassFile.Reader.s1 >>= fun u => Pure.pure (Instr.iinc v u)) := rfl
theorem qb_133 (pc : Nat) : qdb pc 133 = Pure.pure (Instr.i2l) := rfl
theorem qb_136 (pc : Nat) : qdb pc 136 = Pure.pure (Instr.l2i) := rfl
theorem qb_145 (pc : Nat) : qdb pc 145 = Pure.pure (Instr.i2b) := rfl
theorem qb_146 (pc : Nat) : qdb pc 146 = Pure.pure (Instr.i2c) := rfl
theorem qb_148 (pc : Nat) : qdb pc 148 = Pure.pure (Instr.lcmp) := rfl
theorem qb_153 (pc : Nat) : qdb pc 153 = (Jvm.ClassFile.Reader.s2 >>= fun v => Pure.pure (Instr.ifCond .eq v)) := rfl
theorem qb_154 (pc : Nat) : qdb pc 154 = (Jvm.ClassFile.Reader.s2 >>= fun v => Pure.pure (Instr.ifCond .ne v)) := rfl
theorem qb_155 (pc : Nat) : qdb pc 155 = (Jvm.ClassFile.Reader.s2 >>= fun v => Pure.pure (Instr.ifCond .lt v)) := rfl
theorem qb_156 (pc : Nat) : qdb pc 156 = (Jvm.ClassFile.Reader.s2 >>= fun v => Pure.pure (Instr.ifCond .ge v)) := rfl
theorem qb_157 (pc : Nat) : qdb pc 157 = (Jvm.ClassFile.Reader.s2 >>= fun v => Pure.pure (Instr.ifCond .gt v)) := rfl
theorem qb_158 (pc : Nat) : qdb pc 158 = (Jvm.ClassFile.Reader.s2 >>= fun v => Pure.pure (Instr.ifCond .le v)) := rfl
theorem qb_159 (pc : Nat) : qdb pc 159 = (Jvm.ClassFile.Reader.s2 >>= fun v => Pure.pure (Instr.if_icmp .eq v)) := rfl
theorem qb_160 (pc : Nat) : qdb pc 160 = (Jvm.ClassFile.Reader.s2 >>= fun v => Pure.pure (Instr.if_icmp .ne v)) := rfl
theorem qb_161 (pc : Nat) : qdb pc 161 = (Jvm.ClassFile.Reader.s2 >>= fun v => Pure.pure (Instr.if_icmp .lt v)) := rfl
theorem qb_162 (pc : Nat) : qdb pc 162 = (Jvm.ClassFile.Reader.s2 >>= fun v => Pure.pure (Instr.if_icmp .ge v)) := rfl
theorem qb_163 (pc : Nat) : qdb pc 163 = (Jvm.ClassFile.Reader.s2 >>= fun v => Pure.pure (Instr.if_icmp .gt v)) := rfl
theorem qb_164 (pc : Nat) : qdb pc 164 = (Jvm.ClassFile.Reader.s2 >>= fun v => Pure.pure (Instr.if_icmp .le v)) := rfl
theorem qb_165 (pc : Nat) : qdb pc 165 = (Jvm.ClassFile.Reader.s2 >>= fun v => Pure.pure (Instr.if_acmp .eq v)) := rfl
theorem qb_166 (pc : Nat) : qdb pc 166 = (Jvm.ClassFile.Reader.s2 >>= fun v => Pure.pure (Instr.if_acmp .ne v)) := rfl
theorem qb_167 (pc : Nat) : qdb pc 167 = (Jvm.ClassFile.Reader.s2 >>= fun v => Pure.pure (Instr.goto v)) := rfl
theorem qb_172 (pc : Nat) : qdb pc 172 = Pure.pure (Instr.ireturn) := rfl
theorem qb_173 (pc : Nat) : qdb pc 173 = Pure.pure (Instr.lreturn) := rfl
theorem qb_176 (pc : Nat) : qdb pc 176 = Pure.pure (Instr.areturn) := rfl
theorem qb_177 (pc : Nat) : qdb pc 177 = Pure.pure (Instr.return_) := rfl
theorem qb_180 (pc : Nat) : qdb pc 180 = (Jvm.ClassFile.Reader.u2 >>= fun v => Pure.pure (Instr.getfield v)) := rfl
theorem qb_181 (pc : Nat) : qdb pc 181 = (Jvm.ClassFile.Reader.u2 >>= fun v => Pure.pure (Instr.putfield v)) := rfl
theorem qb_182 (pc : Nat) : qdb pc 182 = (Jvm.ClassFile.Reader.u2 >>= fun v => Pure.pure (Instr.invokevirtual v)) := rfl
theorem qb_183 (pc : Nat) : qdb pc 183 = (Jvm.ClassFile.Reader.u2 >>= fun v => Pure.pure (Instr.invokespecial v)) := rfl
theorem qb_184 (pc : Nat) : qdb pc 184 = (Jvm.ClassFile.Reader.u2 >>= fun v => Pure.pure (Instr.invokestatic v)) := rfl
theorem qb_187 (pc : Nat) : qdb pc 187 = (Jvm.ClassFile.Reader.u2 >>= fun v => Pure.pure (Instr.new v)) := rfl
theorem qb_189 (pc : Nat) : qdb pc 189 = (Jvm.ClassFile.Reader.u2 >>= fun v => Pure.pure (Instr.anewarray v)) := rfl
theorem qb_190 (pc : Nat) : qdb pc 190 = Pure.pure (Instr.arraylength) := rfl
noncomputable def qdz (op a c : Nat) : Option qI := bif Nat.ble 92 op then (bif Nat.ble 148 op then (bif Nat.ble 166 op then (bif Nat.ble 181 op then (bif Nat.ble 184 op then (bif Nat.ble 189 op then (bif Nat.ble 190 op then (bif Nat.beq op 190 then some (Instr.arraylength, 1) else none) else (bif Nat.beq op 189 then some (Instr.anewarray (a * 256 + c), 3) else none)) else (bif Nat.ble 187 op then (bif Nat.beq op 187 then some (Instr.new (a * 256 + c), 3) else none) else (bif Nat.beq op 184 then some (Instr.invokestatic (a * 256 + c), 3) else none))) else (bif Nat.ble 182 op then (bif Nat.ble 183 op then (bif Nat.beq op 183 then some (Instr.invokespecial (a * 256 + c), 3) else none) else (bif Nat.beq op 182 then some (Instr.invokevirtual (a * 256 + c), 3) else none)) else (bif Nat.beq op 181 then some (Instr.putfield (a * 256 + c), 3) else none))) else (bif Nat.ble 173 op then (bif Nat.ble 177 op then (bif Nat.ble 180 op then (bif Nat.beq op 180 then some (Instr.getfield (a * 256 + c), 3) else none) else (bif Nat.beq op 177 then some (Instr.return_, 1) else none)) else (bif Nat.ble 176 op then (bif Nat.beq op 176 then some (Instr.areturn, 1) else none) else (bif Nat.beq op 173 then some (Instr.lreturn, 1) else none))) else (bif Nat.ble 167 op then (bif Nat.ble 172 op then (bif Nat.beq op 172 then some (Instr.ireturn, 1) else none) else (bif Nat.beq op 167 then some (Instr.goto (Jvm.ClassFile.Reader.signed 16 (a * 256 + c)), 3) else none)) else (bif Nat.beq op 166 then some (Instr.if_acmp .ne (Jvm.ClassFile.Reader.signed 16 (a * 256 + c)), 3) else none)))) else (bif Nat.ble 159 op then (bif Nat.ble 162 op then (bif Nat.ble 164 op then (bif Nat.ble 165 op then (bif Nat.beq op 165 then some (Instr.if_acmp .eq (Jvm.ClassFile.Reader.signed 16 (a * 256 + c)), 3) else none) else (bif Nat.beq op 164 then some (Instr.if_icmp .le (Jvm.ClassFile.Reader.signed 16 (a * 256 + c)), 3) else none)) else (bif Nat.ble 163 op then (bif Nat.beq op 163 then some (Instr.if_icmp .gt (Jvm.ClassFile.Reader.signed 16 (a * 256 + c)), 3) else none) else (bif Nat.beq op 162 then some (Instr.if_icmp .ge (Jvm.ClassFile.Reader.signed 16 (a * 256 + c)), 3) else none))) else (bif Nat.ble 160 op then (bif Nat.ble 161 op then (bif Nat.beq op 161 then some (Instr.if_icmp .lt (Jvm.ClassFile.Reader.signed 16 (a * 256 + c)), 3) else none) else (bif Nat.beq op 160 then some (Instr.if_icmp .ne (Jvm.ClassFile.Reader.signed 16 (a * 256 + c)), 3) else none)) else (bif Nat.beq op 159 then some (Instr.if_icmp .eq (Jvm.ClassFile.Reader.signed 16 (a * 256 + c)), 3) else none))) else (bif Nat.ble 155 op then (bif Nat.ble 157 op then (bif Nat.ble 158 op then (bif Nat.beq op 158 then some (Instr.ifCond .le (Jvm.ClassFile.Reader.signed 16 (a * 256 + c)), 3) else none) else (bif Nat.beq op 157 then some (Instr.ifCond .gt (Jvm.ClassFile.Reader.signed 16 (a * 256 + c)), 3) else none)) else (bif Nat.ble 156 op then (bif Nat.beq op 156 then some (Instr.ifCond .ge (Jvm.ClassFile.Reader.signed 16 (a * 256 + c)), 3) else none) else (bif Nat.beq op 155 then some (Instr.ifCond .lt (Jvm.ClassFile.Reader.signed 16 (a * 256 + c)), 3) else none))) else (bif Nat.ble 153 op then (bif Nat.ble 154 op then (bif Nat.beq op 154 then some (Instr.ifCond .ne (Jvm.ClassFile.Reader.signed 16 (a * 256 + c)), 3) else none) else (bif Nat.beq op 153 then some (Instr.ifCond .eq (Jvm.ClassFile.Reader.signed 16 (a * 256 + c)), 3) else none)) else (bif Nat.beq op 148 then some (Instr.lcmp, 1) else none))))) else (bif Nat.ble 123 op then (bif Nat.ble 130 op then (bif Nat.ble 133 op then (bif Nat.ble 145 op then (bif Nat.ble 146 op then (bif Nat.beq op 146 then some (Instr.i2c, 1) else none) else (bif Nat.beq op 145 then some (Instr.i2b, 1) else none)) else (bif Nat.ble 136 op then (bif Nat.beq op 136 then some (Instr.l2i, 1) else none) else (bif Nat.beq op 133 then some (Instr.i2l, 1) else none))) else (bif Nat.ble 131 op then (bif Nat.ble 132 op then (bif Nat.beq op 132 then some (Instr.iinc a (Jvm.ClassFile.Reader.signed 8 c), 3) else none) else (bif Nat.beq op 131 then some (Instr.lxor, 1) else none)) else (bif Nat.beq op 130 then some (Instr.ixor, 1) else none))) else (bif Nat.ble 126 op then (bif Nat.ble 128 op then (bif Nat.ble 129 op then (bif Nat.beq op 129 then some (Instr.lor, 1) else none) else (bif Nat.beq op 128 then some (Instr.ior, 1) else none)) else (bif Nat.ble 127 op then (bif Nat.beq op 127 then some (Instr.land, 1) else none) else (bif Nat.beq op 126 then some (Instr.iand, 1) else none))) else (bif Nat.ble 124 op then (bif Nat.ble 125 op then (bif Nat.beq op 125 then some (Instr.lushr, 1) else none) else (bif Nat.beq op 124 then some (Instr.iushr, 1) else none)) else (bif Nat.beq op 123 then some (Instr.lshr, 1) else none)))) else (bif Nat.ble 108 op then (bif Nat.ble 116 op then (bif Nat.ble 121 op then (bif Nat.ble 122 op then (bif Nat.beq op 122 then some (Instr.ishr, 1) else none) else (bif Nat.beq op 121 then some (Instr.lshl, 1) else none)) else (bif Nat.ble 120 op then (bif Nat.beq op 120 then some (Instr.ishl, 1) else none) else (bif Nat.beq op 116 then some (Instr.ineg, 1) else none))) else (bif Nat.ble 109 op then (bif Nat.ble 112 op then (bif Nat.beq op 112 then some (Instr.irem, 1) else none) else (bif Nat.beq op 109 then some (Instr.ldiv, 1) else none)) else (bif Nat.beq op 108 then some (Instr.idiv, 1) else none))) else (bif Nat.ble 100 op then (bif Nat.ble 104 op then (bif Nat.ble 105 op then (bif Nat.beq op 105 then some (Instr.lmul, 1) else none) else (bif Nat.beq op 104 then some (Instr.imul, 1) else none)) else (bif Nat.ble 101 op then (bif Nat.beq op 101 then some (Instr.lsub, 1) else none) else (bif Nat.beq op 100 then some (Instr.isub, 1) else none))) else (bif Nat.ble 96 op then (bif Nat.ble 97 op then (bif Nat.beq op 97 then some (Instr.ladd, 1) else none) else (bif Nat.beq op 96 then some (Instr.iadd, 1) else none)) else (bif Nat.beq op 92 then some (Instr.dup2, 1) else none)))))) else (bif Nat.ble 43 op then (bif Nat.ble 63 op then (bif Nat.ble 78 op then (bif Nat.ble 83 op then (bif Nat.ble 87 op then (bif Nat.ble 89 op then (bif Nat.beq op 89 then some (Instr.dup, 1) else none) else (bif Nat.beq op 87 then some (Instr.pop, 1) else none)) else (bif Nat.ble 84 op then (bif Nat.beq op 84 then some (Instr.bastore, 1) else none) else (bif Nat.beq op 83 then some (Instr.aastore, 1) else none))) else (bif Nat.ble 79 op then (bif Nat.ble 80 op then (bif Nat.beq op 80 then some (Instr.lastore, 1) else none) else (bif Nat.beq op 79 then some (Instr.iastore, 1) else none)) else (bif Nat.beq op 78 then some (Instr.astore_n 3, 1) else none))) else (bif Nat.ble 66 op then (bif Nat.ble 76 op then (bif Nat.ble 77 op then (bif Nat.beq op 77 then some (Instr.astore_n 2, 1) else none) else (bif Nat.beq op 76 then some (Instr.astore_n 1, 1) else none)) else (bif Nat.ble 75 op then (bif Nat.beq op 75 then some (Instr.astore_n 0, 1) else none) else (bif Nat.beq op 66 then some (Instr.lstore_n 3, 1) else none))) else (bif Nat.ble 64 op then (bif Nat.ble 65 op then (bif Nat.beq op 65 then some (Instr.lstore_n 2, 1) else none) else (bif Nat.beq op 64 then some (Instr.lstore_n 1, 1) else none)) else (bif Nat.beq op 63 then some (Instr.lstore_n 0, 1) else none)))) else (bif Nat.ble 54 op then (bif Nat.ble 59 op then (bif Nat.ble 61 op then (bif Nat.ble 62 op then (bif Nat.beq op 62 then some (Instr.istore_n 3, 1) else none) else (bif Nat.beq op 61 then some (Instr.istore_n 2, 1) else none)) else (bif Nat.ble 60 op then (bif Nat.beq op 60 then some (Instr.istore_n 1, 1) else none) else (bif Nat.beq op 59 then some (Instr.istore_n 0, 1) else none))) else (bif Nat.ble 55 op then (bif Nat.ble 58 op then (bif Nat.beq op 58 then some (Instr.astore a, 2) else none) else (bif Nat.beq op 55 then some (Instr.lstore a, 2) else none)) else (bif Nat.beq op 54 then some (Instr.istore a, 2) else none))) else (bif Nat.ble 46 op then (bif Nat.ble 50 op then (bif Nat.ble 51 op then (bif Nat.beq op 51 then some (Instr.baload, 1) else none) else (bif Nat.beq op 50 then some (Instr.aaload, 1) else none)) else (bif Nat.ble 47 op then (bif Nat.beq op 47 then some (Instr.laload, 1) else none) else (bif Nat.beq op 46 then some (Instr.iaload, 1) else none))) else (bif Nat.ble 44 op then (bif Nat.ble 45 op then (bif Nat.beq op 45 then some (Instr.aload_n 3, 1) else none) else (bif Nat.beq op 44 then some (Instr.aload_n 2, 1) else none)) else (bif Nat.beq op 43 then some (Instr.aload_n 1, 1) else none))))) else (bif Nat.ble 19 op then (bif Nat.ble 28 op then (bif Nat.ble 31 op then (bif Nat.ble 33 op then (bif Nat.ble 42 op then (bif Nat.beq op 42 then some (Instr.aload_n 0, 1) else none) else (bif Nat.beq op 33 then some (Instr.lload_n 3, 1) else none)) else (bif Nat.ble 32 op then (bif Nat.beq op 32 then some (Instr.lload_n 2, 1) else none) else (bif Nat.beq op 31 then some (Instr.lload_n 1, 1) else none))) else (bif Nat.ble 29 op then (bif Nat.ble 30 op then (bif Nat.beq op 30 then some (Instr.lload_n 0, 1) else none) else (bif Nat.beq op 29 then some (Instr.iload_n 3, 1) else none)) else (bif Nat.beq op 28 then some (Instr.iload_n 2, 1) else none))) else (bif Nat.ble 22 op then (bif Nat.ble 26 op then (bif Nat.ble 27 op then (bif Nat.beq op 27 then some (Instr.iload_n 1, 1) else none) else (bif Nat.beq op 26 then some (Instr.iload_n 0, 1) else none)) else (bif Nat.ble 25 op then (bif Nat.beq op 25 then some (Instr.aload a, 2) else none) else (bif Nat.beq op 22 then some (Instr.lload a, 2) else none))) else (bif Nat.ble 20 op then (bif Nat.ble 21 op then (bif Nat.beq op 21 then some (Instr.iload a, 2) else none) else (bif Nat.beq op 20 then some (Instr.ldc2_w (a * 256 + c), 3) else none)) else (bif Nat.beq op 19 then some (Instr.ldc_w (a * 256 + c), 3) else none)))) else (bif Nat.ble 7 op then (bif Nat.ble 10 op then (bif Nat.ble 17 op then (bif Nat.ble 18 op then (bif Nat.beq op 18 then some (Instr.ldc a, 2) else none) else (bif Nat.beq op 17 then some (Instr.sipush (Jvm.ClassFile.Reader.signed 16 (a * 256 + c)), 3) else none)) else (bif Nat.ble 16 op then (bif Nat.beq op 16 then some (Instr.bipush (Jvm.ClassFile.Reader.signed 8 a), 2) else none) else (bif Nat.beq op 10 then some (Instr.lconst 1, 1) else none))) else (bif Nat.ble 8 op then (bif Nat.ble 9 op then (bif Nat.beq op 9 then some (Instr.lconst 0, 1) else none) else (bif Nat.beq op 8 then some (Instr.iconst 5, 1) else none)) else (bif Nat.beq op 7 then some (Instr.iconst 4, 1) else none))) else (bif Nat.ble 4 op then (bif Nat.ble 5 op then (bif Nat.ble 6 op then (bif Nat.beq op 6 then some (Instr.iconst 3, 1) else none) else (bif Nat.beq op 5 then some (Instr.iconst 2, 1) else none)) else (bif Nat.beq op 4 then some (Instr.iconst 1, 1) else none)) else (bif Nat.ble 2 op then (bif Nat.ble 3 op then (bif Nat.beq op 3 then some (Instr.iconst 0, 1) else none) else (bif Nat.beq op 2 then some (Instr.iconst (-1), 1) else none)) else (bif Nat.beq op 1 then some (Instr.aconst_null, 1) else none))))))
theorem qdz_c {b : Bool} {x y : Option qI} {r : qI} {P : Prop} (h : (bif b then x else y) = some r) (hx : b = true → x = some r → P) (hy : b = false → y = some r → P) : P := by
  cases b
  · exact hy rfl h
  · exact hx rfl h
theorem qdz_ok {b : ByteArray} {pc op a c : Nat} {x : qI} (h : qdz op a c = some x) (h0 : qbt b pc = some op) (h1 : 2 ≤ x.2 → qbt b (pc + 1) = some a) (h2 : 3 ≤ x.2 → qbt b (pc + 2) = some c) : decode b pc = .ok x := qdz_c h (fun _ h => qdz_c h (fun _ h => qdz_c h (fun _ h => qdz_c h (fun _ h => qdz_c h (fun _ h => qdz_c h (fun _ h => qdz_c h (fun _ h => qdz_c h (fun e h => by have e := Nat.eq_of_beq_eq_true e; subst e; cases h; exact qd_0  h0  (qb_190 pc)) (fun _ h => by cases h)) (fun _ h => qdz_c h (fun e h => by have e := Nat.eq_of_beq_eq_true e; subst e; cases h; exact qd_2 (f := fun v => Instr.anewarray v) h0 (h1 (show (2 : Nat) ≤ 3 by decide)) (h2 (Nat.le_refl 3)) (qb_189 pc)) (fun _ h => by cases h))) (fun _ h => qdz_c h (fun _ h => qdz_c h (fun e h => by have e := Nat.eq_of_beq_eq_true e; subst e; cases h; exact qd_2 (f := fun v => Instr.new v) h0 (h1 (show (2 : Nat) ≤ 3 by decide)) (h2 (Nat.le_refl 3)) (qb_187 pc)) (fun _ h => by cases h)) (fun _ h => qdz_c h (fun e h => by have e := Nat.eq_of_beq_eq_true e; subst e; cases h; exact qd_2 (f := fun v => Instr.invokestatic v) h0 (h1 (show (2 : Nat) ≤ 3 by decide)) (h2 (Nat.le_refl 3)) (qb_184 pc)) (fun _ h => by cases h)))) (fun _ h => qdz_c h (fun _ h => qdz_c h (fun _ h => qdz_c h (fun e h => by have e := Nat.eq_of_beq_eq_true e; subst e; cases h; exact qd_2 (f := fun v => Instr.invokespecial v) h0 (h1 (show (2 : Nat) ≤ 3 by decide)) (h2 (Nat.le_refl 3)) (qb_183 pc)) (fun _ h => by cases h)) (fun _ h => qdz_c h (fun e h => by have e := Nat.eq_of_beq_eq_true e; subst e; cases h; exact qd_2 (f := fun v => Instr.invokevirtual v) h0 (h1 (show (2 : Nat) ≤ 3 by decide)) (h2 (Nat.le_refl 3)) (qb_182 pc)) (fun _ h => by cases h))) (fun _ h => qdz_c h (fun e h => by have e := Nat.eq_of_beq_eq_true e; subst e; cases h; exact qd_2 (f := fun v => Instr.putfield v) h0 (h1 (show (2 : Nat) ≤ 3 by decide)) (h2 (Nat.le_refl 3)) (qb_181 pc)) (fun _ h => by cases h)))) (fun _ h => qdz_c h (fun _ h => qdz_c h (fun _ h => qdz_c h (fun _ h => qdz_c h (fun e h => by have e := Nat.eq_of_beq_eq_true e; subst e; cases h; exact qd_2 (f := fun v => Instr.getfield v) h0 (h1 (show (2 : Nat) ≤ 3 by decide)) (h2 (Nat.le_refl 3)) (qb_180 pc)) (fun _ h => by cases h)) (fun _ h => qdz_c h (fun e h => by have e := Nat.eq_of_beq_eq_true e; subst e; cases h; exact qd_0  h0  (qb_177 pc)) (fun _ h => by cases h))) (fun _ h => qdz_c h (fun _ h => qdz_c h (fun e h => by have e := Nat.eq_of_beq_eq_true e; subst e; cases h; exact qd_0  h0  (qb_176 pc)) (fun _ h => by cases h)) (fun _ h => qdz_c h (fun e h => by have e := Nat.eq_of_beq_eq_true e; subst e; cases h; exact qd_0  h0  (qb_173 pc)) (fun _ h => by cases h)))) (fun _ h => qdz_c h (fun _ h => qdz_c h (fun _ h => qdz_c h (fun e h => by have e := Nat.eq_of_beq_eq_true e; subst e; cases h; exact qd_0  h0  (qb_172 pc)) (fun _ h => by cases h)) (fun _ h => qdz_c h (fun e h => by have e := Nat.eq_of_beq_eq_true e; subst e; cases h; exact qd_S (f := fun v => Instr.goto v) h0 (h1 (show (2 : Nat) ≤ 3 by decide)) (h2 (Nat.le_refl 3)) (qb_167 pc)) (fun _ h => by cases h))) (fun _ h => qdz_c h (fun e h => by have e := Nat.eq_of_beq_eq_true e; subst e; cases h; exact qd_S (f := fun v => Instr.if_acmp .ne v) h0 (h1 (show (2 : Nat) ≤ 3 by decide)) (h2 (Nat.le_refl 3)) (qb_166 pc)) (fun _ h => by cases h))))) (fun _ h => qdz_c h (fun _ h => qdz_c h (fun _ h => qdz_c h (fun _ h => qdz_c h (fun _ h => qdz_c h (fun e h => by have e := Nat.eq_of_beq_eq_true e; subst e; cases h; exact qd_S (f := fun v => Instr.if_acmp .eq v) h0 (h1 (show (2 : Nat) ≤ 3 by decide)) (h2 (Nat.le_refl 3)) (qb_165 pc)) (fun _ h => by cases h)) (fun _ h => qdz_c h (fun e h => by have e := Nat.eq_of_beq_eq_true e; subst e; cases h; exact qd_S (f := fun v => Instr.if_icmp .le v) h0 (h1 (show (2 : Nat) ≤ 3 by decide)) (h2 (Nat.le_refl 3)) (qb_164 pc)) (fun _ h => by cases h))) (fun _ h => qdz_c h (fun _ h => qdz_c h (fun e h => by have e := Nat.eq_of_beq_eq_true e; subst e; cases h; exact qd_S (f := fun v => Instr.if_icmp .gt v) h0 (h1 (show (2 : Nat) ≤ 3 by decide)) (h2 (Nat.le_refl 3)) (qb_163 pc)) (fun _ h => by cases h)) (fun _ h => qdz_c h (fun e h => by have e := Nat.eq_of_beq_eq_true e; subst e; cases h; exact qd_S (f := fun v => Instr.if_icmp .ge v) h0 (h1 (show (2 : Nat) ≤ 3 by decide)) (h2 (Nat.le_refl 3)) (qb_162 pc)) (fun _ h => by cases h)))) (fun _ h => qdz_c h (fun _ h => qdz_c h (fun _ h => qdz_c h (fun e h => by have e := Nat.eq_of_beq_eq_true e; subst e; cases h; exact qd_S (f := fun v => Instr.if_icmp .lt v) h0 (h1 (show (2 : Nat) ≤ 3 by decide)) (h2 (Nat.le_refl 3)) (qb_161 pc)) (fun _ h => by cases h)) (fun _ h => qdz_c h (fun e h => by have e := Nat.eq_of_beq_eq_true e; subst e; cases h; exact qd_S (f := fun v => Instr.if_icmp .ne v) h0 (h1 (show (2 : Nat) ≤ 3 by decide)) (h2 (Nat.le_refl 3)) (qb_160 pc)) (fun _ h => by cases h))) (fun _ h => qdz_c h (fun e h => by have e := Nat.eq_of_beq_eq_true e; subst e; cases h; exact qd_S (f := fun v => Instr.if_icmp .eq v) h0 (h1 (show (2 : Nat) ≤ 3 by decide)) (h2 (Nat.le_refl 3)) (qb_159 pc)) (fun _ h => by cases h)))) (fun _ h => qdz_c h (fun _ h => qdz_c h (fun _ h => qdz_c h (fun _ h => qdz_c h (fun e h => by have e := Nat.eq_of_beq_eq_true e; subst e; cases h; exact qd_S (f := fun v => Instr.ifCond .le v) h0 (h1 (show (2 : Nat) ≤ 3 by decide)) (h2 (Nat.le_refl 3)) (qb_158 pc)) (fun _ h => by cases h)) (fun _ h => qdz_c h (fun e h => by have e := Nat.eq_of_beq_eq_true e; subst e; cases h; exact qd_S (f := fun v => Instr.ifCond .gt v) h0 (h1 (show (2 : Nat) ≤ 3 by decide)) (h2 (Nat.le_refl 3)) (qb_157 pc)) (fun _ h => by cases h))) (fun _ h => qdz_c h (fun _ h => qdz_c h (fun e h => by have e := Nat.eq_of_beq_eq_true e; subst e; cases h; exact qd_S (f := fun v => Instr.ifCond .ge v) h0 (h1 (show (2 : Nat) ≤ 3 by decide)) (h2 (Nat.le_refl 3)) (qb_156 pc)) (fun _ h => by cases h)) (fun _ h => qdz_c h (fun e h => by have e := Nat.eq_of_beq_eq_true e; subst e; cases h; exact qd_S (f := fun v => Instr.ifCond .lt v) h0 (h1 (show (2 : Nat) ≤ 3 by decide)) (h2 (Nat.le_refl 3)) (qb_155 pc)) (fun _ h => by cases h)))) (fun _ h => qdz_c h (fun _ h => qdz_c h (fun _ h => qdz_c h (fun e h => by have e := Nat.eq_of_beq_eq_true e; subst e; cases h; exact qd_S (f := fun v => Instr.ifCond .ne v) h0 (h1 (show (2 : Nat) ≤ 3 by decide)) (h2 (Nat.le_refl 3)) (qb_154 pc)) (fun _ h => by cases h)) (fun _ h => qdz_c h (fun e h => by have e := Nat.eq_of_beq_eq_true e; subst e; cases h; exact qd_S (f := fun v => Instr.ifCond .eq v) h0 (h1 (show (2 : Nat) ≤ 3 by decide)) (h2 (Nat.le_refl 3)) (qb_153 pc)) (fun _ h => by cases h))) (fun _ h => qdz_c h (fun e h => by have e := Nat.eq_of_beq_eq_true e; subst e; cases h; exact qd_0  h0  (qb_148 pc)) (fun _ h => by cases h)))))) (fun _ h => qdz_c h (fun _ h => qdz_c h (fun _ h => qdz_c h (fun _ h => qdz_c h (fun _ h => qdz_c h (fun _ h => qdz_c h (fun e h => by have e := Nat.eq_of_beq_eq_true e; subst e; cases h; exact qd_0  h0  (qb_146 pc)) (fun _ h => by cases h)) (fun _ h => qdz_c h (fun e h => by have e := Nat.eq_of_beq_eq_true e; subst e; cases h; exact qd_0  h0  (qb_145 pc)) (fun _ h => by cases h))) (fun _ h => qdz_c h (fun _ h => qdz_c h (fun e h => by have e := Nat.eq_of_beq_eq_true e; subst e; cases h; exact qd_0  h0  (qb_136 pc)) (fun _ h => by cases h)) (fun _ h => qdz_c h (fun e h => by have e := Nat.eq_of_beq_eq_true e; subst e; cases h; exact qd_0  h0  (qb_133 pc)) (fun _ h => by cases h)))) (fun _ h => qdz_c h (fun _ h => qdz_c h (fun _ h => qdz_c h (fun e h => by have e := Nat.eq_of_beq_eq_true e; subst e; cases h; exact qd_i (f := fun v u => Instr.iinc v u) h0 (h1 (show (2 : Nat) ≤ 3 by decide)) (h2 (Nat.le_refl 3)) (qb_132 pc)) (fun _ h => by cases h)) (fun _ h => qdz_c h (fun e h => by have e := Nat.eq_of_beq_eq_true e; subst e; cases h; exact qd_0  h0  (qb_131 pc)) (fun _ h => by cases h))) (fun _ h => qdz_c h (fun e h => by have e := Nat.eq_of_beq_eq_true e; subst e; cases h; exact qd_0  h0  (qb_130 pc)) (fun _ h => by cases h)))) (fun _ h => qdz_c h (fun _ h => qdz_c h (fun _ h => qdz_c h (fun _ h => qdz_c h (fun e h => by have e := Nat.eq_of_beq_eq_true e; subst e; cases h; exact qd_0  h0  (qb_129 pc)) (fun _ h => by cases h)) (fun _ h => qdz_c h (fun e h => by have e := Nat.eq_of_beq_eq_true e; subst e; cases h; exact qd_0  h0  (qb_128 pc)) (fun _ h => by cases h))) (fun _ h => qdz_c h (fun _ h => qdz_c h (fun e h => by have e := Nat.eq_of_beq_eq_true e; subst e; cases h; exact qd_0  h0  (qb_127 pc)) (fun _ h => by cases h)) (fun _ h => qdz_c h (fun e h => by have e := Nat.eq_of_beq_eq_true e; subst e; cases h; exact qd_0  h0  (qb_126 pc)) (fun _ h => by cases h)))) (fun _ h => qdz_c h (fun _ h => qdz_c h (fun _ h => qdz_c h (fun e h => by have e := Nat.eq_of_beq_eq_true e; subst e; cases h; exact qd_0  h0  (qb_125 pc)) (fun _ h => by cases h)) (fun _ h => qdz_c h (fun e h => by have e := Nat.eq_of_beq_eq_true e; subst e; cases h; exact qd_0  h0  (qb_124 pc)) (fun _ h => by cases h))) (fun _ h => qdz_c h (fun e h => by have e := Nat.eq_of_beq_eq_true e; subst e; cases h; exact qd_0  h0  (qb_123 pc)) (fun _ h => by cases h))))) (fun _ h => qdz_c h (fun _ h => qdz_c h (fun _ h => qdz_c h (fun _ h => qdz_c h (fun _ h => qdz_c h (fun e h => by have e := Nat.eq_of_beq_eq_true e; subst e; cases h; exact qd_0  h0  (qb_122 pc)) (fun _ h => by cases h)) (fun _ h => qdz_c h (fun e h => by have e := Nat.eq_of_beq_eq_true e; subst e; cases h; exact qd_0  h0  (qb_121 pc)) (fun _ h => by cases h))) (fun _ h => qdz_c h (fun _ h => qdz_c h (fun e h => by have e := Nat.eq_of_beq_eq_true e; subst e; cases h; exact qd_0  h0  (qb_120 pc)) (fun _ h => by cases h)) (fun _ h => qdz_c h (fun e h => by have e := Nat.eq_of_beq_eq_true e; subst e; cases h; exact qd_0  h0  (qb_116 pc)) (fun _ h => by cases h)))) (fun _ h => qdz_c h (fun _ h => qdz_c h (fun _ h => qdz_c h (fun e h => by have e := Nat.eq_of_beq_eq_true e; subst e; cases h; exact qd_0  h0  (qb_112 pc)) (fun _ h => by cases h)) (fun _ h => qdz_c h (fun e h => by have e := Nat.eq_of_beq_eq_true e; subst e; cases h; exact qd_0  h0  (qb_109 pc)) (fun _ h => by cases h))) (fun _ h => qdz_c h (fun e h => by have e := Nat.eq_of_beq_eq_true e; subst e; cases h; exact qd_0  h0  (qb_108 pc)) (fun _ h => by cases h)))) (fun _ h => qdz_c h (fun _ h => qdz_c h (fun _ h => qdz_c h (fun _ h => qdz_c h (fun e h => by have e := Nat.eq_of_beq_eq_true e; subst e; cases h; exact qd_0  h0  (qb_105 pc)) (fun _ h => by cases h)) (fun _ h => qdz_c h (fun e h => by have e := Nat.eq_of_beq_eq_true e; subst e; cases h; exact qd_0  h0  (qb_104 pc)) (fun _ h => by cases h))) (fun _ h => qdz_c h (fun _ h => qdz_c h (fun e h => by have e := Nat.eq_of_beq_eq_true e; subst e; cases h; exact qd_0  h0  (qb_101 pc)) (fun _ h => by cases h)) (fun _ h => qdz_c h (fun e h => by have e := Nat.eq_of_beq_eq_true e; subst e; cases h; exact qd_0  h0  (qb_100 pc)) (fun _ h => by cases h)))) (fun _ h => qdz_c h (fun _ h => qdz_c h (fun _ h => qdz_c h (fun e h => by have e := Nat.eq_of_beq_eq_true e; subst e; cases h; exact qd_0  h0  (qb_97 pc)) (fun _ h => by cases h)) (fun _ h => qdz_c h (fun e h => by have e := Nat.eq_of_beq_eq_true e; subst e; cases h; exact qd_0  h0  (qb_96 pc)) (fun _ h => by cases h))) (fun _ h => qdz_c h (fun e h => by have e := Nat.eq_of_beq_eq_true e; subst e; cases h; exact qd_0  h0  (qb_92 pc)) (fun _ h => by cases h))))))) (fun _ h => qdz_c h (fun _ h => qdz_c h (fun _ h => qdz_c h (fun _ h => qdz_c h (fun _ h => qdz_c h (fun _ h => qdz_c h (fun _ h => qdz_c h (fun e h => by have e := Nat.eq_of_beq_eq_true e; subst e; cases h; exact qd_0  h0  (qb_89 pc)) (fun _ h => by cases h)) (fun _ h => qdz_c h (fun e h => by have e := Nat.eq_of_beq_eq_true e; subst e; cases h; exact qd_0  h0  (qb_87 pc)) (fun _ h => by cases h))) (fun _ h => qdz_c h (fun _ h => qdz_c h (fun e h => by have e := Nat.eq_of_beq_eq_true e; subst e; cases h; exact qd_0  h0  (qb_84 pc)) (fun _ h => by cases h)) (fun _ h => qdz_c h (fun e h => by have e := Nat.eq_of_beq_eq_true e; subst e; cases h; exact qd_0  h0  (qb_83 pc)) (fun _ h => by cases h)))) (fun _ h => qdz_c h (fun _ h => qdz_c h (fun _ h => qdz_c h (fun e h => by have e := Nat.eq_of_beq_eq_true e; subst e; cases h; exact qd_0  h0  (qb_80 pc)) (fun _ h => by cases h)) (fun _ h => qdz_c h (fun e h => by have e := Nat.eq_of_beq_eq_true e; subst e; cases h; exact qd_0  h0  (qb_79 pc)) (fun _ h => by cases h))) (fun _ h => qdz_c h (fun e h => by have e := Nat.eq_of_beq_eq_true e; subst e; cases h; exact qd_0  h0  (qb_78 pc)) (fun _ h => by cases h)))) (fun _ h => qdz_c h (fun _ h => qdz_c h (fun _ h => qdz_c h (fun _ h => qdz_c h (fun e h => by have e := Nat.eq_of_beq_eq_true e; subst e; cases h; exact qd_0  h0  (qb_77 pc)) (fun _ h => by cases h)) (fun _ h => qdz_c h (fun e h => by have e := Nat.eq_of_beq_eq_true e; subst e; cases h; exact qd_0  h0  (qb_76 pc)) (fun _ h => by cases h))) (fun _ h => qdz_c h (fun _ h => qdz_c h (fun e h => by have e := Nat.eq_of_beq_eq_true e; subst e; cases h; exact qd_0  h0  (qb_75 pc)) (fun _ h => by cases h)) (fun _ h => qdz_c h (fun e h => by have e := Nat.eq_of_beq_eq_true e; subst e; cases h; exact qd_0  h0  (qb_66 pc)) (fun _ h => by cases h)))) (fun _ h => qdz_c h (fun _ h => qdz_c h (fun _ h => qdz_c h (fun e h => by have e := Nat.eq_of_beq_eq_true e; subst e; cases h; exact qd_0  h0  (qb_65 pc)) (fun _ h => by cases h)) (fun _ h => qdz_c h (fun e h => by have e := Nat.eq_of_beq_eq_true e; subst e; cases h; exact qd_0  h0  (qb_64 pc)) (fun _ h => by cases h))) (fun _ h => qdz_c h (fun e h => by have e := Nat.eq_of_beq_eq_true e; subst e; cases h; exact qd_0  h0  (qb_63 pc)) (fun _ h => by cases h))))) (fun _ h => qdz_c h (fun _ h => qdz_c h (fun _ h => qdz_c h (fun _ h => qdz_c h (fun _ h => qdz_c h (fun e h => by have e := Nat.eq_of_beq_eq_true e; subst e; cases h; exact qd_0  h0  (qb_62 pc)) (fun _ h => by cases h)) (fun _ h => qdz_c h (fun e h => by have e := Nat.eq_of_beq_eq_true e; subst e; cases h; exact qd_0  h0  (qb_61 pc)) (fun _ h => by cases h))) (fun _ h => qdz_c h (fun _ h => qdz_c h (fun e h => by have e := Nat.eq_of_beq_eq_true e; subst e; cases h; exact qd_0  h0  (qb_60 pc)) (fun _ h => by cases h)) (fun _ h => qdz_c h (fun e h => by have e := Nat.eq_of_beq_eq_true e; subst e; cases h; exact qd_0  h0  (qb_59 pc)) (fun _ h => by cases h)))) (fun _ h => qdz_c h (fun _ h => qdz_c h (fun _ h => qdz_c h (fun e h => by have e := Nat.eq_of_beq_eq_true e; subst e; cases h; exact qd_1 (f := fun v => Instr.astore v) h0 (h1 (Nat.le_refl 2)) (qb_58 pc)) (fun _ h => by cases h)) (fun _ h => qdz_c h (fun e h => by have e := Nat.eq_of_beq_eq_true e; subst e; cases h; exact qd_1 (f := fun v => Instr.lstore v) h0 (h1 (Nat.le_refl 2)) (qb_55 pc)) (fun _ h => by cases h))) (fun _ h => qdz_c h (fun e h => by have e := Nat.eq_of_beq_eq_true e; subst e; cases h; exact qd_1 (f := fun v => Instr.istore v) h0 (h1 (Nat.le_refl 2)) (qb_54 pc)) (fun _ h => by cases h)))) (fun _ h => qdz_c h (fun _ h => qdz_c h (fun _ h => qdz_c h (fun _ h => qdz_c h (fun e h => by have e := Nat.eq_of_beq_eq_true e; subst e; cases h; exact qd_0  h0  (qb_51 pc)) (fun _ h => by cases h)) (fun _ h => qdz_c h (fun e h => by have e := Nat.eq_of_beq_eq_true e; subst e; cases h; exact qd_0  h0  (qb_50 pc)) (fun _ h => by cases h))) (fun _ h => qdz_c h (fun _ h => qdz_c h (fun e h => by have e := Nat.eq_of_beq_eq_true e; subst e; cases h; exact qd_0  h0  (qb_47 pc)) (fun _ h => by cases h)) (fun _ h => qdz_c h (fun e h => by have e := Nat.eq_of_beq_eq_true e; subst e; cases h; exact qd_0  h0  (qb_46 pc)) (fun _ h => by cases h)))) (fun _ h => qdz_c h (fun _ h => qdz_c h (fun _ h => qdz_c h (fun e h => by have e := Nat.eq_of_beq_eq_true e; subst e; cases h; exact qd_0  h0  (qb_45 pc)) (fun _ h => by cases h)) (fun _ h => qdz_c h (fun e h => by have e := Nat.eq_of_beq_eq_true e; subst e; cases h; exact qd_0  h0  (qb_44 pc)) (fun _ h => by cases h))) (fun _ h => qdz_c h (fun e h => by have e := Nat.eq_of_beq_eq_true e; subst e; cases h; exact qd_0  h0  (qb_43 pc)) (fun _ h => by cases h)))))) (fun _ h => qdz_c h (fun _ h => qdz_c h (fun _ h => qdz_c h (fun _ h => qdz_c h (fun _ h => qdz_c h (fun _ h => qdz_c h (fun e h => by have e := Nat.eq_of_beq_eq_true e; subst e; cases h; exact qd_0  h0  (qb_42 pc)) (fun _ h => by cases h)) (fun _ h => qdz_c h (fun e h => by have e := Nat.eq_of_beq_eq_true e; subst e; cases h; exact qd_0  h0  (qb_33 pc)) (fun _ h => by cases h))) (fun _ h => qdz_c h (fun _ h => qdz_c h (fun e h => by have e := Nat.eq_of_beq_eq_true e; subst e; cases h; exact qd_0  h0  (qb_32 pc)) (fun _ h => by cases h)) (fun _ h => qdz_c h (fun e h => by have e := Nat.eq_of_beq_eq_true e; subst e; cases h; exact qd_0  h0  (qb_31 pc)) (fun _ h => by cases h)))) (fun _ h => qdz_c h (fun _ h => qdz_c h (fun _ h => qdz_c h (fun e h => by have e := Nat.eq_of_beq_eq_true e; subst e; cases h; exact qd_0  h0  (qb_30 pc)) (fun _ h => by cases h)) (fun _ h => qdz_c h (fun e h => by have e := Nat.eq_of_beq_eq_true e; subst e; cases h; exact qd_0  h0  (qb_29 pc)) (fun _ h => by cases h))) (fun _ h => qdz_c h (fun e h => by have e := Nat.eq_of_beq_eq_true e; subst e; cases h; exact qd_0  h0  (qb_28 pc)) (fun _ h => by cases h)))) (fun _ h => qdz_c h (fun _ h => qdz_c h (fun _ h => qdz_c h (fun _ h => qdz_c h (fun e h => by have e := Nat.eq_of_beq_eq_true e; subst e; cases h; exact qd_0  h0  (qb_27 pc)) (fun _ h => by cases h)) (fun _ h => qdz_c h (fun e h => by have e := Nat.eq_of_beq_eq_true e; subst e; cases h; exact qd_0  h0  (qb_26 pc)) (fun _ h => by cases h))) (fun _ h => qdz_c h (fun _ h => qdz_c h (fun e h => by have e := Nat.eq_of_beq_eq_true e; subst e; cases h; exact qd_1 (f := fun v => Instr.aload v) h0 (h1 (Nat.le_refl 2)) (qb_25 pc)) (fun _ h => by cases h)) (fun _ h => qdz_c h (fun e h => by have e := Nat.eq_of_beq_eq_true e; subst e; cases h; exact qd_1 (f := fun v => Instr.lload v) h0 (h1 (Nat.le_refl 2)) (qb_22 pc)) (fun _ h => by cases h)))) (fun _ h => qdz_c h (fun _ h => qdz_c h (fun _ h => qdz_c h (fun e h => by have e := Nat.eq_of_beq_eq_true e; subst e; cases h; exact qd_1 (f := fun v => Instr.iload v) h0 (h1 (Nat.le_refl 2)) (qb_21 pc)) (fun _ h => by cases h)) (fun _ h => qdz_c h (fun e h => by have e := Nat.eq_of_beq_eq_true e; subst e; cases h; exact qd_2 (f := fun v => Instr.ldc2_w v) h0 (h1 (show (2 : Nat) ≤ 3 by decide)) (h2 (Nat.le_refl 3)) (qb_20 pc)) (fun _ h => by cases h))) (fun _ h => qdz_c h (fun e h => by have e := Nat.eq_of_beq_eq_true e; subst e; cases h; exact qd_2 (f := fun v => Instr.ldc_w v) h0 (h1 (show (2 : Nat) ≤ 3 by decide)) (h2 (Nat.le_refl 3)) (qb_19 pc)) (fun _ h => by cases h))))) (fun _ h => qdz_c h (fun _ h => qdz_c h (fun _ h => qdz_c h (fun _ h => qdz_c h (fun _ h => qdz_c h (fun e h => by have e := Nat.eq_of_beq_eq_true e; subst e; cases h; exact qd_1 (f := fun v => Instr.ldc v) h0 (h1 (Nat.le_refl 2)) (qb_18 pc)) (fun _ h => by cases h)) (fun _ h => qdz_c h (fun e h => by have e := Nat.eq_of_beq_eq_true e; subst e; cases h; exact qd_S (f := fun v => Instr.sipush v) h0 (h1 (show (2 : Nat) ≤ 3 by decide)) (h2 (Nat.le_refl 3)) (qb_17 pc)) (fun _ h => by cases h))) (fun _ h => qdz_c h (fun _ h => qdz_c h (fun e h => by have e := Nat.eq_of_beq_eq_true e; subst e; cases h; exact qd_s (f := fun v => Instr.bipush v) h0 (h1 (Nat.le_refl 2)) (qb_16 pc)) (fun _ h => by cases h)) (fun _ h => qdz_c h (fun e h => by have e := Nat.eq_of_beq_eq_true e; subst e; cases h; exact qd_0  h0  (qb_10 pc)) (fun _ h => by cases h)))) (fun _ h => qdz_c h (fun _ h => qdz_c h (fun _ h => qdz_c h (fun e h => by have e := Nat.eq_of_beq_eq_true e; subst e; cases h; exact qd_0  h0  (qb_9 pc)) (fun _ h => by cases h)) (fun _ h => qdz_c h (fun e h => by have e := Nat.eq_of_beq_eq_true e; subst e; cases h; exact qd_0  h0  (qb_8 pc)) (fun _ h => by cases h))) (fun _ h => qdz_c h (fun e h => by have e := Nat.eq_of_beq_eq_true e; subst e; cases h; exact qd_0  h0  (qb_7 pc)) (fun _ h => by cases h)))) (fun _ h => qdz_c h (fun _ h => qdz_c h (fun _ h => qdz_c h (fun _ h => qdz_c h (fun e h => by have e := Nat.eq_of_beq_eq_true e; subst e; cases h; exact qd_0  h0  (qb_6 pc)) (fun _ h => by cases h)) (fun _ h => qdz_c h (fun e h => by have e := Nat.eq_of_beq_eq_true e; subst e; cases h; exact qd_0  h0  (qb_5 pc)) (fun _ h => by cases h))) (fun _ h => qdz_c h (fun e h => by have e := Nat.eq_of_beq_eq_true e; subst e; cases h; exact qd_0  h0  (qb_4 pc)) (fun _ h => by cases h))) (fun _ h => qdz_c h (fun _ h => qdz_c h (fun _ h => qdz_c h (fun e h => by have e := Nat.eq_of_beq_eq_true e; subst e; cases h; exact qd_0  h0  (qb_3 pc)) (fun _ h => by cases h)) (fun _ h => qdz_c h (fun e h => by have e := Nat.eq_of_beq_eq_true e; subst e; cases h; exact qd_0  h0  (qb_2 pc)) (fun _ h => by cases h))) (fun _ h => qdz_c h (fun e h => by have e := Nat.eq_of_beq_eq_true e; subst e; cases h; exact qd_0  h0  (qb_1 pc)) (fun _ h => by cases h)))))))
noncomputable def qwl (rows : Nat → Option qI) (b : ByteArray) : List UInt8 → Nat → Bool
  | [], _ => true
  | x :: r, pc => (match rows pc with
    | none => true
    | some i => (match qdz x.toNat (r.headD 0).toNat (r.tail.headD 0).toNat with
      | some z => decide (z = i) && (Nat.ble i.2 1 || (!r.isEmpty && (Nat.ble i.2 2 || !r.tail.isEmpty)))
      | none => (match decode b pc with
        | .ok z => decide (z = i)
        | .error _ => false)) && qok pc i.1 i.2) && qwl rows b r (pc + 1)
theorem qbt_l {b : ByteArray} {j : Nat} {x : UInt8} (h : b.data.toList[j]? = some x) : qbt b j = some x.toNat := by
  obtain ⟨hj, hx⟩ := List.getElem?_eq_some_iff.mp h
  have hs : j < b.size := hj
  unfold qbt
  rw [dif_pos hs]
  subst hx
  rfl
theorem qwl_ok {rows : Nat → Option qI} {b : ByteArray} : ∀ (l : List UInt8) (p : Nat), (∀ j, b.data.toList[p + j]? = l[j]?) → qwl rows b l p = true → ∀ j, j < l.length → ∀ ins len, rows (p + j) = some (ins, len) → decode b (p + j) = .ok (ins, len) ∧ qok (p + j) ins len = true
  | [], _, _, _, j, hj, _, _, _ => absurd hj (Nat.not_lt_zero j)
  | x :: r, p, hl, h, j, hj, ins, len, hr => by
    have h : ((match rows p with
      | none => true
      | some i => (match qdz x.toNat (r.headD 0).toNat (r.tail.headD 0).toNat with
        | some z => decide (z = i) && (Nat.ble i.2 1 || (!r.isEmpty && (Nat.ble i.2 2 || !r.tail.isEmpty)))
        | none => (match decode b p with
          | .ok z => decide (z = i)
          | .error _ => false)) && qok p i.1 i.2) && qwl rows b r (p + 1)) = true := h
    rw [Bool.and_eq_true] at h
    cases j with
    | zero =>
      have hr : rows p = some (ins, len) := hr
      have h1 := h.1
      rw [hr] at h1
      have h1 : ((match qdz x.toNat (r.headD 0).toNat (r.tail.headD 0).toNat with
        | some z => decide (z = (ins, len)) && (Nat.ble len 1 || (!r.isEmpty && (Nat.ble len 2 || !r.tail.isEmpty)))
        | none => (match decode b p with
          | .ok z => decide (z = (ins, len))
          | .error _ => false)) && qok p ins len) = true := h1
      rw [Bool.and_eq_true] at h1
      refine ⟨?_, h1.2⟩
      have h2 := h1.1
      show decode b p = _
      cases hz : qdz x.toNat (r.headD 0).toNat (r.tail.headD 0).toNat with
      | some z =>
        rw [hz] at h2
        have h2 : (decide (z = (ins, len)) && (Nat.ble len 1 || (!r.isEmpty && (Nat.ble len 2 || !r.tail.isEmpty)))) = true := h2
        rw [Bool.and_eq_true, decide_eq_true_eq] at h2
        obtain ⟨rfl, h3⟩ := h2
        refine qdz_ok hz (qbt_l (hl 0)) (fun q => ?_) (fun q => ?_)
        · have q : 2 ≤ len := q
          cases r with
          | nil =>
            have h3 : (Nat.ble len 1 || (!true && (Nat.ble len 2 || !true))) = true := h3
            rw [Bool.or_eq_true] at h3
            rcases h3 with h3 | h3
            · have := Nat.le_of_ble_eq_true h3; omega
            · exact absurd (show false = true from h3) Bool.false_ne_true
          | cons y r => exact qbt_l (hl 1)
        · have q : 3 ≤ len := q
          cases r with
          | nil =>
            have h3 : (Nat.ble len 1 || (!true && (Nat.ble len 2 || !true))) = true := h3
            rw [Bool.or_eq_true] at h3
            rcases h3 with h3 | h3
            · have := Nat.le_of_ble_eq_true h3; omega
            · exact absurd (show false = true from h3) Bool.false_ne_true
          | cons y r =>
            cases r with
            | nil =>
              have h3 : (Nat.ble len 1 || (!false && (Nat.ble len 2 || !true))) = true := h3
              rw [Bool.or_eq_true] at h3
              rcases h3 with h3 | h3
              · have := Nat.le_of_ble_eq_true h3; omega
              · have h3 : (Nat.ble len 2 || false) = true := h3
                rw [Bool.or_false] at h3
                have := Nat.le_of_ble_eq_true h3; omega
            | cons y2 r => exact qbt_l (hl 2)
      | none =>
        rw [hz] at h2
        have h2 : (match decode b p with
          | .ok z => decide (z = (ins, len))
          | .error _ => false) = true := h2
        split at h2
        · rename_i z hz2
          rw [hz2, of_decide_eq_true h2]
        · cases h2
    | succ j =>
      have e : p + (j + 1) = (p + 1) + j := by omega
      rw [e] at hr ⊢
      exact qwl_ok r (p + 1) (fun k => by rw [show p + 1 + k = p + (k + 1) by omega, hl (k + 1)]; rfl) h.2 j (Nat.lt_of_succ_lt_succ hj) ins len hr
theorem qwl_b {rows : Nat → Option qI} {b : ByteArray} {B : Nat} (h : (qwl rows b b.data.toList 0 && Nat.ble B b.data.toList.length) = true) {pc : Nat} (hp : pc < B) {ins : Instr} {len : Nat} (hr : rows pc = some (ins, len)) : decode b pc = .ok (ins, len) ∧ qok pc ins len = true := by
  rw [Bool.and_eq_true] at h
  have hB := Nat.le_of_ble_eq_true h.2
  have := qwl_ok (rows := rows) b.data.toList 0 (fun j => by rw [Nat.zero_add]) h.1 pc (by omega) ins len (by rw [Nat.zero_add]; exact hr)
  rwa [Nat.zero_add] at this
theorem qblt_f {a b : Nat} (h : ¬ a < b) : Nat.blt a b = false := by
  cases hq : Nat.blt a b
  · rfl
  · exact absurd (Nat.blt_eq.mp hq) h
theorem qd_X0_init_0 : (qwl qc_X0_init cX0_init (cX0_init).data.toList 0 && Nat.ble 39 (cX0_init).data.toList.length) = true := by decide +kernel
theorem qd_X0_init {pc : Nat} {ins : Instr} {len : Nat} (h : qc_X0_init pc = some (ins, len)) : decode cX0_init pc = .ok (ins, len) ∧ qok pc ins len = true := by
  by_cases hb : pc < 39
  · exact qwl_b qd_X0_init_0 hb h
  · exfalso; unfold qc_X0_init at h; rw [qblt_f hb] at h; cases h
theorem qd_X0_moveCode_0 : (qwl qc_X0_moveCode cX0_moveCode (cX0_moveCode).data.toList 0 && Nat.ble 7 (cX0_moveCode).data.toList.length) = true := by decide +kernel
theorem qd_X0_moveCode {pc : Nat} {ins : Instr} {len : Nat} (h : qc_X0_moveCode pc = some (ins, len)) : decode cX0_moveCode pc = .ok (ins, len) ∧ qok pc ins len = true := by
  by_cases hb : pc < 7
  · exact qwl_b qd_X0_moveCode_0 hb h
  · exfalso; unfold qc_X0_moveCode at h; rw [qblt_f hb] at h; cases h
theorem qd_X0_tell_0 : (qwl qc_X0_tell cX0_tell (cX0_tell).data.toList 0 && Nat.ble 72 (cX0_tell).data.toList.length) = true := by decide +kernel
theorem qd_X0_tell {pc : Nat} {ins : Instr} {len : Nat} (h : qc_X0_tell pc = some (ins, len)) : decode cX0_tell pc = .ok (ins, len) ∧ qok pc ins len = true := by
  by_cases hb : pc < 72
  · exact qwl_b qd_X0_tell_0 hb h
  · exfalso; unfold qc_X0_tell at h; rw [qblt_f hb] at h; cases h
theorem qd_X0_play_0 : (qwl qc_X0_play cX0_play (cX0_play).data.toList 0 && Nat.ble 48 (cX0_play).data.toList.length) = true := by decide +kernel
theorem qd_X0_play {pc : Nat} {ins : Instr} {len : Nat} (h : qc_X0_play pc = some (ins, len)) : decode cX0_play pc = .ok (ins, len) ∧ qok pc ins len = true := by
  by_cases hb : pc < 48
  · exact qwl_b qd_X0_play_0 hb h
  · exfalso; unfold qc_X0_play at h; rw [qblt_f hb] at h; cases h
theorem qd_X0_factOf_0 : (qwl qc_X0_factOf cX0_factOf (cX0_factOf).data.toList 0 && Nat.ble 59 (cX0_factOf).data.toList.length) = true := by decide +kernel
theorem qd_X0_factOf {pc : Nat} {ins : Instr} {len : Nat} (h : qc_X0_factOf pc = some (ins, len)) : decode cX0_factOf pc = .ok (ins, len) ∧ qok pc ins len = true := by
  by_cases hb : pc < 59
  · exact qwl_b qd_X0_factOf_0 hb h
  · exfalso; unfold qc_X0_factOf at h; rw [qblt_f hb] at h; cases h
theorem qd_X0_emptyGame_0 : (qwl qc_X0_emptyGame cX0_emptyGame (cX0_emptyGame).data.toList 0 && Nat.ble 12 (cX0_emptyGame).data.toList.length) = true := by decide +kernel
theorem qd_X0_emptyGame {pc : Nat} {ins : Instr} {len : Nat} (h : qc_X0_emptyGame pc = some (ins, len)) : decode cX0_emptyGame pc = .ok (ins, len) ∧ qok pc ins len = true := by
  by_cases hb : pc < 12
  · exact qwl_b qd_X0_emptyGame_0 hb h
  · exfalso; unfold qc_X0_emptyGame at h; rw [qblt_f hb] at h; cases h
theorem qd_X0_playedAlone_0 : (qwl qc_X0_playedAlone cX0_playedAlone (cX0_playedAlone).data.toList 0 && Nat.ble 52 (cX0_playedAlone).data.toList.length) = true := by decide +kernel
theorem qd_X0_playedAlone {pc : Nat} {ins : Instr} {len : Nat} (h : qc_X0_playedAlone pc = some (ins, len)) : decode cX0_playedAlone pc = .ok (ins, len) ∧ qok pc ins len = true := by
  by_cases hb : pc < 52
  · exact qwl_b qd_X0_playedAlone_0 hb h
  · exfalso; unfold qc_X0_playedAlone at h; rw [qblt_f hb] at h; cases h
theorem qd_X0_answerTo_0 : (qwl qc_X0_answerTo cX0_answerTo (cX0_answerTo).data.toList 0 && Nat.ble 41 (cX0_answerTo).data.toList.length) = true := by decide +kernel
theorem qd_X0_answerTo {pc : Nat} {ins : Instr} {len : Nat} (h : qc_X0_answerTo pc = some (ins, len)) : decode cX0_answerTo pc = .ok (ins, len) ∧ qok pc ins len = true := by
  by_cases hb : pc < 41
  · exact qwl_b qd_X0_answerTo_0 hb h
  · exfalso; unfold qc_X0_answerTo at h; rw [qblt_f hb] at h; cases h
theorem qd_X1_init_0 : (qwl qc_X1_init cX1_init (cX1_init).data.toList 0 && Nat.ble 29 (cX1_init).data.toList.length) = true := by decide +kernel
theorem qd_X1_init {pc : Nat} {ins : Instr} {len : Nat} (h : qc_X1_init pc = some (ins, len)) : decode cX1_init pc = .ok (ins, len) ∧ qok pc ins len = true := by
  by_cases hb : pc < 29
  · exact qwl_b qd_X1_init_0 hb h
  · exfalso; unfold qc_X1_init at h; rw [qblt_f hb] at h; cases h
theorem qd_X1_isSquare_0 : (qwl qc_X1_isSquare cX1_isSquare (cX1_isSquare).data.toList 0 && Nat.ble 16 (cX1_isSquare).data.toList.length) = true := by decide +kernel
theorem qd_X1_isSquare {pc : Nat} {ins : Instr} {len : Nat} (h : qc_X1_isSquare pc = some (ins, len)) : decode cX1_isSquare pc = .ok (ins, len) ∧ qok pc ins len = true := by
  by_cases hb : pc < 16
  · exact qwl_b qd_X1_isSquare_0 hb h
  · exfalso; unfold qc_X1_isSquare at h; rw [qblt_f hb] at h; cases h
theorem qd_X1_isMove_0 : (qwl qc_X1_isMove cX1_isMove (cX1_isMove).data.toList 0 && Nat.ble 25 (cX1_isMove).data.toList.length) = true := by decide +kernel
theorem qd_X1_isMove {pc : Nat} {ins : Instr} {len : Nat} (h : qc_X1_isMove pc = some (ins, len)) : decode cX1_isMove pc = .ok (ins, len) ∧ qok pc ins len = true := by
  by_cases hb : pc < 25
  · exact qwl_b qd_X1_isMove_0 hb h
  · exfalso; unfold qc_X1_isMove at h; rw [qblt_f hb] at h; cases h
theorem qd_X1_putPiece_0 : (qwl qc_X1_putPiece cX1_putPiece (cX1_putPiece).data.toList 0 && Nat.ble 35 (cX1_putPiece).data.toList.length) = true := by decide +kernel
theorem qd_X1_putPiece {pc : Nat} {ins : Instr} {len : Nat} (h : qc_X1_putPiece pc = some (ins, len)) : decode cX1_putPiece pc = .ok (ins, len) ∧ qok pc ins len = true := by
  by_cases hb : pc < 35
  · exact qwl_b qd_X1_putPiece_0 hb h
  · exfalso; unfold qc_X1_putPiece at h; rw [qblt_f hb] at h; cases h
theorem qd_X1_putStick_0 : (qwl qc_X1_putStick cX1_putStick (cX1_putStick).data.toList 0 && Nat.ble 18 (cX1_putStick).data.toList.length) = true := by decide +kernel
theorem qd_X1_putStick {pc : Nat} {ins : Instr} {len : Nat} (h : qc_X1_putStick pc = some (ins, len)) : decode cX1_putStick pc = .ok (ins, len) ∧ qok pc ins len = true := by
  by_cases hb : pc < 18
  · exact qwl_b qd_X1_putStick_0 hb h
  · exfalso; unfold qc_X1_putStick at h; rw [qblt_f hb] at h; cases h
theorem qd_X1_play_0 : (qwl qc_X1_play cX1_play (cX1_play).data.toList 0 && Nat.ble 124 (cX1_play).data.toList.length) = true := by decide +kernel
theorem qd_X1_play {pc : Nat} {ins : Instr} {len : Nat} (h : qc_X1_play pc = some (ins, len)) : decode cX1_play pc = .ok (ins, len) ∧ qok pc ins len = true := by
  by_cases hb : pc < 124
  · exact qwl_b qd_X1_play_0 hb h
  · exfalso; unfold qc_X1_play at h; rw [qblt_f hb] at h; cases h
theorem qd_X1_factOf_0 : (qwl qc_X1_factOf cX1_factOf (cX1_factOf).data.toList 0 && Nat.ble 58 (cX1_factOf).data.toList.length) = true := by decide +kernel
theorem qd_X1_factOf {pc : Nat} {ins : Instr} {len : Nat} (h : qc_X1_factOf pc = some (ins, len)) : decode cX1_factOf pc = .ok (ins, len) ∧ qok pc ins len = true := by
  by_cases hb : pc < 58
  · exact qwl_b qd_X1_factOf_0 hb h
  · exfalso; unfold qc_X1_factOf at h; rw [qblt_f hb] at h; cases h
theorem qd_X1_countWrong_0 : (qwl qc_X1_countWrong cX1_countWrong (cX1_countWrong).data.toList 0 && Nat.ble 47 (cX1_countWrong).data.toList.length) = true := by decide +kernel
theorem qd_X1_countWrong {pc : Nat} {ins : Instr} {len : Nat} (h : qc_X1_countWrong pc = some (ins, len)) : decode cX1_countWrong pc = .ok (ins, len) ∧ qok pc ins len = true := by
  by_cases hb : pc < 47
  · exact qwl_b qd_X1_countWrong_0 hb h
  · exfalso; unfold qc_X1_countWrong at h; rw [qblt_f hb] at h; cases h
theorem qd_X1_countOpen_0 : (qwl qc_X1_countOpen cX1_countOpen (cX1_countOpen).data.toList 0 && Nat.ble 32 (cX1_countOpen).data.toList.length) = true := by decide +kernel
theorem qd_X1_countOpen {pc : Nat} {ins : Instr} {len : Nat} (h : qc_X1_countOpen pc = some (ins, len)) : decode cX1_countOpen pc = .ok (ins, len) ∧ qok pc ins len = true := by
  by_cases hb : pc < 32
  · exact qwl_b qd_X1_countOpen_0 hb h
  · exfalso; unfold qc_X1_countOpen at h; rw [qblt_f hb] at h; cases h
theorem qd_X2_init_0 : (qwl qc_X2_init cX2_init (cX2_init).data.toList 0 && Nat.ble 95 (cX2_init).data.toList.length) = true := by decide +kernel
theorem qd_X2_init {pc : Nat} {ins : Instr} {len : Nat} (h : qc_X2_init pc = some (ins, len)) : decode cX2_init pc = .ok (ins, len) ∧ qok pc ins len = true := by
  by_cases hb : pc < 95
  · exact qwl_b qd_X2_init_0 hb h
  · exfalso; unfold qc_X2_init at h; rw [qblt_f hb] at h; cases h
theorem qd_X2_areNeighbours_0 : (qwl qc_X2_areNeighbours cX2_areNeighbours (cX2_areNeighbours).data.toList 0 && Nat.ble 56 (cX2_areNeighbours).data.toList.length) = true := by decide +kernel
theorem qd_X2_areNeighbours {pc : Nat} {ins : Instr} {len : Nat} (h : qc_X2_areNeighbours pc = some (ins, len)) : decode cX2_areNeighbours pc = .ok (ins, len) ∧ qok pc ins len = true := by
  by_cases hb : pc < 56
  · exact qwl_b qd_X2_areNeighbours_0 hb h
  · exfalso; unfold qc_X2_areNeighbours at h; rw [qblt_f hb] at h; cases h
theorem qd_X2_isSpace_0 : (qwl qc_X2_isSpace cX2_isSpace (cX2_isSpace).data.toList 0 && Nat.ble 16 (cX2_isSpace).data.toList.length) = true := by decide +kernel
theorem qd_X2_isSpace {pc : Nat} {ins : Instr} {len : Nat} (h : qc_X2_isSpace pc = some (ins, len)) : decode cX2_isSpace pc = .ok (ins, len) ∧ qok pc ins len = true := by
  by_cases hb : pc < 16
  · exact qwl_b qd_X2_isSpace_0 hb h
  · exfalso; unfold qc_X2_isSpace at h; rw [qblt_f hb] at h; cases h
theorem qd_X2_putWorks_0 : (qwl qc_X2_putWorks cX2_putWorks (cX2_putWorks).data.toList 0 && Nat.ble 50 (cX2_putWorks).data.toList.length) = true := by decide +kernel
theorem qd_X2_putWorks {pc : Nat} {ins : Instr} {len : Nat} (h : qc_X2_putWorks pc = some (ins, len)) : decode cX2_putWorks pc = .ok (ins, len) ∧ qok pc ins len = true := by
  by_cases hb : pc < 50
  · exact qwl_b qd_X2_putWorks_0 hb h
  · exfalso; unfold qc_X2_putWorks at h; rw [qblt_f hb] at h; cases h
theorem qd_X2_putWall_0 : (qwl qc_X2_putWall cX2_putWall (cX2_putWall).data.toList 0 && Nat.ble 106 (cX2_putWall).data.toList.length) = true := by decide +kernel
theorem qd_X2_putWall {pc : Nat} {ins : Instr} {len : Nat} (h : qc_X2_putWall pc = some (ins, len)) : decode cX2_putWall pc = .ok (ins, len) ∧ qok pc ins len = true := by
  by_cases hb : pc < 106
  · exact qwl_b qd_X2_putWall_0 hb h
  · exfalso; unfold qc_X2_putWall at h; rw [qblt_f hb] at h; cases h
theorem qd_X2_putDoor_0 : (qwl qc_X2_putDoor cX2_putDoor (cX2_putDoor).data.toList 0 && Nat.ble 70 (cX2_putDoor).data.toList.length) = true := by decide +kernel
theorem qd_X2_putDoor {pc : Nat} {ins : Instr} {len : Nat} (h : qc_X2_putDoor pc = some (ins, len)) : decode cX2_putDoor pc = .ok (ins, len) ∧ qok pc ins len = true := by
  by_cases hb : pc < 70
  · exact qwl_b qd_X2_putDoor_0 hb h
  · exfalso; unfold qc_X2_putDoor at h; rw [qblt_f hb] at h; cases h
theorem qd_X2_shapeNumber_0 : (qwl qc_X2_shapeNumber cX2_shapeNumber (cX2_shapeNumber).data.toList 0 && Nat.ble 5 (cX2_shapeNumber).data.toList.length) = true := by decide +kernel
theorem qd_X2_shapeNumber {pc : Nat} {ins : Instr} {len : Nat} (h : qc_X2_shapeNumber pc = some (ins, len)) : decode cX2_shapeNumber pc = .ok (ins, len) ∧ qok pc ins len = true := by
  by_cases hb : pc < 5
  · exact qwl_b qd_X2_shapeNumber_0 hb h
  · exfalso; unfold qc_X2_shapeNumber at h; rw [qblt_f hb] at h; cases h
theorem qd_X2_worksNow_0 : (qwl qc_X2_worksNow cX2_worksNow (cX2_worksNow).data.toList 0 && Nat.ble 5 (cX2_worksNow).data.toList.length) = true := by decide +kernel
theorem qd_X2_worksNow {pc : Nat} {ins : Instr} {len : Nat} (h : qc_X2_worksNow pc = some (ins, len)) : decode cX2_worksNow pc = .ok (ins, len) ∧ qok pc ins len = true := by
  by_cases hb : pc < 5
  · exact qwl_b qd_X2_worksNow_0 hb h
  · exfalso; unfold qc_X2_worksNow at h; rw [qblt_f hb] at h; cases h
theorem qd_X2_freeSpaces_0 : (qwl qc_X2_freeSpaces cX2_freeSpaces (cX2_freeSpaces).data.toList 0 && Nat.ble 10 (cX2_freeSpaces).data.toList.length) = true := by decide +kernel
theorem qd_X2_freeSpaces {pc : Nat} {ins : Instr} {len : Nat} (h : qc_X2_freeSpaces pc = some (ins, len)) : decode cX2_freeSpaces pc = .ok (ins, len) ∧ qok pc ins len = true := by
  by_cases hb : pc < 10
  · exact qwl_b qd_X2_freeSpaces_0 hb h
  · exfalso; unfold qc_X2_freeSpaces at h; rw [qblt_f hb] at h; cases h
theorem qd_X2_sideOf_0 : (qwl qc_X2_sideOf cX2_sideOf (cX2_sideOf).data.toList 0 && Nat.ble 21 (cX2_sideOf).data.toList.length) = true := by decide +kernel
theorem qd_X2_sideOf {pc : Nat} {ins : Instr} {len : Nat} (h : qc_X2_sideOf pc = some (ins, len)) : decode cX2_sideOf pc = .ok (ins, len) ∧ qok pc ins len = true := by
  by_cases hb : pc < 21
  · exact qwl_b qd_X2_sideOf_0 hb h
  · exfalso; unfold qc_X2_sideOf at h; rw [qblt_f hb] at h; cases h
theorem qd_X2_shownBy_0 : (qwl qc_X2_shownBy cX2_shownBy (cX2_shownBy).data.toList 0 && Nat.ble 61 (cX2_shownBy).data.toList.length) = true := by decide +kernel
theorem qd_X2_shownBy {pc : Nat} {ins : Instr} {len : Nat} (h : qc_X2_shownBy pc = some (ins, len)) : decode cX2_shownBy pc = .ok (ins, len) ∧ qok pc ins len = true := by
  by_cases hb : pc < 61
  · exact qwl_b qd_X2_shownBy_0 hb h
  · exfalso; unfold qc_X2_shownBy at h; rw [qblt_f hb] at h; cases h
theorem qd_X2_nextTo_0 : (qwl qc_X2_nextTo cX2_nextTo (cX2_nextTo).data.toList 0 && Nat.ble 35 (cX2_nextTo).data.toList.length) = true := by decide +kernel
theorem qd_X2_nextTo {pc : Nat} {ins : Instr} {len : Nat} (h : qc_X2_nextTo pc = some (ins, len)) : decode cX2_nextTo pc = .ok (ins, len) ∧ qok pc ins len = true := by
  by_cases hb : pc < 35
  · exact qwl_b qd_X2_nextTo_0 hb h
  · exfalso; unfold qc_X2_nextTo at h; rw [qblt_f hb] at h; cases h
theorem qd_X2_hangsTogether_0 : (qwl qc_X2_hangsTogether cX2_hangsTogether (cX2_hangsTogether).data.toList 0 && Nat.ble 39 (cX2_hangsTogether).data.toList.length) = true := by decide +kernel
theorem qd_X2_hangsTogether {pc : Nat} {ins : Instr} {len : Nat} (h : qc_X2_hangsTogether pc = some (ins, len)) : decode cX2_hangsTogether pc = .ok (ins, len) ∧ qok pc ins len = true := by
  by_cases hb : pc < 39
  · exact qwl_b qd_X2_hangsTogether_0 hb h
  · exfalso; unfold qc_X2_hangsTogether at h; rw [qblt_f hb] at h; cases h
theorem qd_X2_airAtFirst_0 : (qwl qc_X2_airAtFirst cX2_airAtFirst (cX2_airAtFirst).data.toList 0 && Nat.ble 11 (cX2_airAtFirst).data.toList.length) = true := by decide +kernel
theorem qd_X2_airAtFirst {pc : Nat} {ins : Instr} {len : Nat} (h : qc_X2_airAtFirst pc = some (ins, len)) : decode cX2_airAtFirst pc = .ok (ins, len) ∧ qok pc ins len = true := by
  by_cases hb : pc < 11
  · exact qwl_b qd_X2_airAtFirst_0 hb h
  · exfalso; unfold qc_X2_airAtFirst at h; rw [qblt_f hb] at h; cases h
theorem qd_X2_airLasts_0 : (qwl qc_X2_airLasts cX2_airLasts (cX2_airLasts).data.toList 0 && Nat.ble 50 (cX2_airLasts).data.toList.length) = true := by decide +kernel
theorem qd_X2_airLasts {pc : Nat} {ins : Instr} {len : Nat} (h : qc_X2_airLasts pc = some (ins, len)) : decode cX2_airLasts pc = .ok (ins, len) ∧ qok pc ins len = true := by
  by_cases hb : pc < 50
  · exact qwl_b qd_X2_airLasts_0 hb h
  · exfalso; unfold qc_X2_airLasts at h; rw [qblt_f hb] at h; cases h
theorem qd_X2_airInAMinute_0 : (qwl qc_X2_airInAMinute cX2_airInAMinute (cX2_airInAMinute).data.toList 0 && Nat.ble 39 (cX2_airInAMinute).data.toList.length) = true := by decide +kernel
theorem qd_X2_airInAMinute {pc : Nat} {ins : Instr} {len : Nat} (h : qc_X2_airInAMinute pc = some (ins, len)) : decode cX2_airInAMinute pc = .ok (ins, len) ∧ qok pc ins len = true := by
  by_cases hb : pc < 39
  · exact qwl_b qd_X2_airInAMinute_0 hb h
  · exfalso; unfold qc_X2_airInAMinute at h; rw [qblt_f hb] at h; cases h
theorem qd_X3_init_0 : (qwl qc_X3_init cX3_init (cX3_init).data.toList 0 && Nat.ble 117 (cX3_init).data.toList.length) = true := by decide +kernel
theorem qd_X3_init {pc : Nat} {ins : Instr} {len : Nat} (h : qc_X3_init pc = some (ins, len)) : decode cX3_init pc = .ok (ins, len) ∧ qok pc ins len = true := by
  by_cases hb : pc < 117
  · exact qwl_b qd_X3_init_0 hb h
  · exfalso; unfold qc_X3_init at h; rw [qblt_f hb] at h; cases h
theorem qd_X3_poseCount_0 : (qwl qc_X3_poseCount cX3_poseCount (cX3_poseCount).data.toList 0 && Nat.ble 17 (cX3_poseCount).data.toList.length) = true := by decide +kernel
theorem qd_X3_poseCount {pc : Nat} {ins : Instr} {len : Nat} (h : qc_X3_poseCount pc = some (ins, len)) : decode cX3_poseCount pc = .ok (ins, len) ∧ qok pc ins len = true := by
  by_cases hb : pc < 17
  · exact qwl_b qd_X3_poseCount_0 hb h
  · exfalso; unfold qc_X3_poseCount at h; rw [qblt_f hb] at h; cases h
theorem qd_X3_follow_0 : (qwl qc_X3_follow cX3_follow (cX3_follow).data.toList 0 && Nat.ble 138 (cX3_follow).data.toList.length) = true := by decide +kernel
theorem qd_X3_follow {pc : Nat} {ins : Instr} {len : Nat} (h : qc_X3_follow pc = some (ins, len)) : decode cX3_follow pc = .ok (ins, len) ∧ qok pc ins len = true := by
  by_cases hb : pc < 138
  · exact qwl_b qd_X3_follow_0 hb h
  · exfalso; unfold qc_X3_follow at h; rw [qblt_f hb] at h; cases h
theorem qd_X3_stayUnseen_0 : (qwl qc_X3_stayUnseen cX3_stayUnseen (cX3_stayUnseen).data.toList 0 && Nat.ble 102 (cX3_stayUnseen).data.toList.length) = true := by decide +kernel
theorem qd_X3_stayUnseen {pc : Nat} {ins : Instr} {len : Nat} (h : qc_X3_stayUnseen pc = some (ins, len)) : decode cX3_stayUnseen pc = .ok (ins, len) ∧ qok pc ins len = true := by
  by_cases hb : pc < 102
  · exact qwl_b qd_X3_stayUnseen_0 hb h
  · exfalso; unfold qc_X3_stayUnseen at h; rw [qblt_f hb] at h; cases h
theorem qd_X3_outcome_0 : (qwl qc_X3_outcome cX3_outcome (cX3_outcome).data.toList 0 && Nat.ble 53 (cX3_outcome).data.toList.length) = true := by decide +kernel
theorem qd_X3_outcome {pc : Nat} {ins : Instr} {len : Nat} (h : qc_X3_outcome pc = some (ins, len)) : decode cX3_outcome pc = .ok (ins, len) ∧ qok pc ins len = true := by
  by_cases hb : pc < 53
  · exact qwl_b qd_X3_outcome_0 hb h
  · exfalso; unfold qc_X3_outcome at h; rw [qblt_f hb] at h; cases h
theorem qd_X3_wayPose_0 : (qwl qc_X3_wayPose cX3_wayPose (cX3_wayPose).data.toList 0 && Nat.ble 126 (cX3_wayPose).data.toList.length) = true := by decide +kernel
theorem qd_X3_wayPose {pc : Nat} {ins : Instr} {len : Nat} (h : qc_X3_wayPose pc = some (ins, len)) : decode cX3_wayPose pc = .ok (ins, len) ∧ qok pc ins len = true := by
  by_cases hb : pc < 126
  · exact qwl_b qd_X3_wayPose_0 hb h
  · exfalso; unfold qc_X3_wayPose at h; rw [qblt_f hb] at h; cases h
theorem qd_X3_findGood_0 : (qwl qc_X3_findGood cX3_findGood (cX3_findGood).data.toList 0 && Nat.ble 111 (cX3_findGood).data.toList.length) = true := by decide +kernel
theorem qd_X3_findGood {pc : Nat} {ins : Instr} {len : Nat} (h : qc_X3_findGood pc = some (ins, len)) : decode cX3_findGood pc = .ok (ins, len) ∧ qok pc ins len = true := by
  by_cases hb : pc < 111
  · exact qwl_b qd_X3_findGood_0 hb h
  · exfalso; unfold qc_X3_findGood at h; rw [qblt_f hb] at h; cases h
theorem qd_X3_writeGood_0 : (qwl qc_X3_writeGood cX3_writeGood (cX3_writeGood).data.toList 0 && Nat.ble 52 (cX3_writeGood).data.toList.length) = true := by decide +kernel
theorem qd_X3_writeGood {pc : Nat} {ins : Instr} {len : Nat} (h : qc_X3_writeGood pc = some (ins, len)) : decode cX3_writeGood pc = .ok (ins, len) ∧ qok pc ins len = true := by
  by_cases hb : pc < 52
  · exact qwl_b qd_X3_writeGood_0 hb h
  · exfalso; unfold qc_X3_writeGood at h; rw [qblt_f hb] at h; cases h
theorem qd_X3_readGood_0 : (qwl qc_X3_readGood cX3_readGood (cX3_readGood).data.toList 0 && Nat.ble 56 (cX3_readGood).data.toList.length) = true := by decide +kernel
theorem qd_X3_readGood {pc : Nat} {ins : Instr} {len : Nat} (h : qc_X3_readGood pc = some (ins, len)) : decode cX3_readGood pc = .ok (ins, len) ∧ qok pc ins len = true := by
  by_cases hb : pc < 56
  · exact qwl_b qd_X3_readGood_0 hb h
  · exfalso; unfold qc_X3_readGood at h; rw [qblt_f hb] at h; cases h
theorem qd_X3_findRow_0 : (qwl qc_X3_findRow cX3_findRow (cX3_findRow).data.toList 0 && Nat.ble 107 (cX3_findRow).data.toList.length) = true := by decide +kernel
theorem qd_X3_findRow {pc : Nat} {ins : Instr} {len : Nat} (h : qc_X3_findRow pc = some (ins, len)) : decode cX3_findRow pc = .ok (ins, len) ∧ qok pc ins len = true := by
  by_cases hb : pc < 107
  · exact qwl_b qd_X3_findRow_0 hb h
  · exfalso; unfold qc_X3_findRow at h; rw [qblt_f hb] at h; cases h
theorem qd_X3_rowFact_0 : (qwl qc_X3_rowFact cX3_rowFact (cX3_rowFact).data.toList 0 && Nat.ble 66 (cX3_rowFact).data.toList.length) = true := by decide +kernel
theorem qd_X3_rowFact {pc : Nat} {ins : Instr} {len : Nat} (h : qc_X3_rowFact pc = some (ins, len)) : decode cX3_rowFact pc = .ok (ins, len) ∧ qok pc ins len = true := by
  by_cases hb : pc < 66
  · exact qwl_b qd_X3_rowFact_0 hb h
  · exfalso; unfold qc_X3_rowFact at h; rw [qblt_f hb] at h; cases h
theorem qd_X3_tryRows_0 : (qwl qc_X3_tryRows cX3_tryRows (cX3_tryRows).data.toList 0 && Nat.ble 48 (cX3_tryRows).data.toList.length) = true := by decide +kernel
theorem qd_X3_tryRows {pc : Nat} {ins : Instr} {len : Nat} (h : qc_X3_tryRows pc = some (ins, len)) : decode cX3_tryRows pc = .ok (ins, len) ∧ qok pc ins len = true := by
  by_cases hb : pc < 48
  · exact qwl_b qd_X3_tryRows_0 hb h
  · exfalso; unfold qc_X3_tryRows at h; rw [qblt_f hb] at h; cases h
theorem qd_X3_tryDoor_0 : (qwl qc_X3_tryDoor cX3_tryDoor (cX3_tryDoor).data.toList 0 && Nat.ble 76 (cX3_tryDoor).data.toList.length) = true := by decide +kernel
theorem qd_X3_tryDoor {pc : Nat} {ins : Instr} {len : Nat} (h : qc_X3_tryDoor pc = some (ins, len)) : decode cX3_tryDoor pc = .ok (ins, len) ∧ qok pc ins len = true := by
  by_cases hb : pc < 76
  · exact qwl_b qd_X3_tryDoor_0 hb h
  · exfalso; unfold qc_X3_tryDoor at h; rw [qblt_f hb] at h; cases h
theorem qd_X3_keepIfBetter_0 : (qwl qc_X3_keepIfBetter cX3_keepIfBetter (cX3_keepIfBetter).data.toList 0 && Nat.ble 62 (cX3_keepIfBetter).data.toList.length) = true := by decide +kernel
theorem qd_X3_keepIfBetter {pc : Nat} {ins : Instr} {len : Nat} (h : qc_X3_keepIfBetter pc = some (ins, len)) : decode cX3_keepIfBetter pc = .ok (ins, len) ∧ qok pc ins len = true := by
  by_cases hb : pc < 62
  · exact qwl_b qd_X3_keepIfBetter_0 hb h
  · exfalso; unfold qc_X3_keepIfBetter at h; rw [qblt_f hb] at h; cases h
theorem qd_X3_passesDoor_0 : (qwl qc_X3_passesDoor cX3_passesDoor (cX3_passesDoor).data.toList 0 && Nat.ble 59 (cX3_passesDoor).data.toList.length) = true := by decide +kernel
theorem qd_X3_passesDoor {pc : Nat} {ins : Instr} {len : Nat} (h : qc_X3_passesDoor pc = some (ins, len)) : decode cX3_passesDoor pc = .ok (ins, len) ∧ qok pc ins len = true := by
  by_cases hb : pc < 59
  · exact qwl_b qd_X3_passesDoor_0 hb h
  · exfalso; unfold qc_X3_passesDoor at h; rw [qblt_f hb] at h; cases h
theorem qd_X3_findProof_0 : (qwl qc_X3_findProof cX3_findProof (cX3_findProof).data.toList 0 && Nat.ble 125 (cX3_findProof).data.toList.length) = true := by decide +kernel
theorem qd_X3_findProof {pc : Nat} {ins : Instr} {len : Nat} (h : qc_X3_findProof pc = some (ins, len)) : decode cX3_findProof pc = .ok (ins, len) ∧ qok pc ins len = true := by
  by_cases hb : pc < 125
  · exact qwl_b qd_X3_findProof_0 hb h
  · exfalso; unfold qc_X3_findProof at h; rw [qblt_f hb] at h; cases h
theorem qd_X3_keepCommon_0 : (qwl qc_X3_keepCommon cX3_keepCommon (cX3_keepCommon).data.toList 0 && Nat.ble 46 (cX3_keepCommon).data.toList.length) = true := by decide +kernel
theorem qd_X3_keepCommon {pc : Nat} {ins : Instr} {len : Nat} (h : qc_X3_keepCommon pc = some (ins, len)) : decode cX3_keepCommon pc = .ok (ins, len) ∧ qok pc ins len = true := by
  by_cases hb : pc < 46
  · exact qwl_b qd_X3_keepCommon_0 hb h
  · exfalso; unfold qc_X3_keepCommon at h; rw [qblt_f hb] at h; cases h
theorem qd_X3_isSame_0 : (qwl qc_X3_isSame cX3_isSame (cX3_isSame).data.toList 0 && Nat.ble 34 (cX3_isSame).data.toList.length) = true := by decide +kernel
theorem qd_X3_isSame {pc : Nat} {ins : Instr} {len : Nat} (h : qc_X3_isSame pc = some (ins, len)) : decode cX3_isSame pc = .ok (ins, len) ∧ qok pc ins len = true := by
  by_cases hb : pc < 34
  · exact qwl_b qd_X3_isSame_0 hb h
  · exfalso; unfold qc_X3_isSame at h; rw [qblt_f hb] at h; cases h
theorem qd_X3_isEmpty_0 : (qwl qc_X3_isEmpty cX3_isEmpty (cX3_isEmpty).data.toList 0 && Nat.ble 13 (cX3_isEmpty).data.toList.length) = true := by decide +kernel
theorem qd_X3_isEmpty {pc : Nat} {ins : Instr} {len : Nat} (h : qc_X3_isEmpty pc = some (ins, len)) : decode cX3_isEmpty pc = .ok (ins, len) ∧ qok pc ins len = true := by
  by_cases hb : pc < 13
  · exact qwl_b qd_X3_isEmpty_0 hb h
  · exfalso; unfold qc_X3_isEmpty at h; rw [qblt_f hb] at h; cases h
theorem qd_X3_howMany_0 : (qwl qc_X3_howMany cX3_howMany (cX3_howMany).data.toList 0 && Nat.ble 38 (cX3_howMany).data.toList.length) = true := by decide +kernel
theorem qd_X3_howMany {pc : Nat} {ins : Instr} {len : Nat} (h : qc_X3_howMany pc = some (ins, len)) : decode cX3_howMany pc = .ok (ins, len) ∧ qok pc ins len = true := by
  by_cases hb : pc < 38
  · exact qwl_b qd_X3_howMany_0 hb h
  · exfalso; unfold qc_X3_howMany at h; rw [qblt_f hb] at h; cases h
theorem qd_X3_least_0 : (qwl qc_X3_least cX3_least (cX3_least).data.toList 0 && Nat.ble 36 (cX3_least).data.toList.length) = true := by decide +kernel
theorem qd_X3_least {pc : Nat} {ins : Instr} {len : Nat} (h : qc_X3_least pc = some (ins, len)) : decode cX3_least pc = .ok (ins, len) ∧ qok pc ins len = true := by
  by_cases hb : pc < 36
  · exact qwl_b qd_X3_least_0 hb h
  · exfalso; unfold qc_X3_least at h; rw [qblt_f hb] at h; cases h
theorem qd_X4_init_0 : (qwl qc_X4_init cX4_init (cX4_init).data.toList 0 && Nat.ble 133 (cX4_init).data.toList.length) = true := by decide +kernel
theorem qd_X4_init {pc : Nat} {ins : Instr} {len : Nat} (h : qc_X4_init pc = some (ins, len)) : decode cX4_init pc = .ok (ins, len) ∧ qok pc ins len = true := by
  by_cases hb : pc < 133
  · exact qwl_b qd_X4_init_0 hb h
  · exfalso; unfold qc_X4_init at h; rw [qblt_f hb] at h; cases h
theorem qd_X4_isYear_0 : (qwl qc_X4_isYear cX4_isYear (cX4_isYear).data.toList 0 && Nat.ble 16 (cX4_isYear).data.toList.length) = true := by decide +kernel
theorem qd_X4_isYear {pc : Nat} {ins : Instr} {len : Nat} (h : qc_X4_isYear pc = some (ins, len)) : decode cX4_isYear pc = .ok (ins, len) ∧ qok pc ins len = true := by
  by_cases hb : pc < 16
  · exact qwl_b qd_X4_isYear_0 hb h
  · exfalso; unfold qc_X4_isYear at h; rw [qblt_f hb] at h; cases h
theorem qd_X4_isTown_0 : (qwl qc_X4_isTown cX4_isTown (cX4_isTown).data.toList 0 && Nat.ble 16 (cX4_isTown).data.toList.length) = true := by decide +kernel
theorem qd_X4_isTown {pc : Nat} {ins : Instr} {len : Nat} (h : qc_X4_isTown pc = some (ins, len)) : decode cX4_isTown pc = .ok (ins, len) ∧ qok pc ins len = true := by
  by_cases hb : pc < 16
  · exact qwl_b qd_X4_isTown_0 hb h
  · exfalso; unfold qc_X4_isTown at h; rw [qblt_f hb] at h; cases h
theorem qd_X4_isStrength_0 : (qwl qc_X4_isStrength cX4_isStrength (cX4_isStrength).data.toList 0 && Nat.ble 16 (cX4_isStrength).data.toList.length) = true := by decide +kernel
theorem qd_X4_isStrength {pc : Nat} {ins : Instr} {len : Nat} (h : qc_X4_isStrength pc = some (ins, len)) : decode cX4_isStrength pc = .ok (ins, len) ∧ qok pc ins len = true := by
  by_cases hb : pc < 16
  · exact qwl_b qd_X4_isStrength_0 hb h
  · exfalso; unfold qc_X4_isStrength at h; rw [qblt_f hb] at h; cases h
theorem qd_X4_isAnswer_0 : (qwl qc_X4_isAnswer cX4_isAnswer (cX4_isAnswer).data.toList 0 && Nat.ble 15 (cX4_isAnswer).data.toList.length) = true := by decide +kernel
theorem qd_X4_isAnswer {pc : Nat} {ins : Instr} {len : Nat} (h : qc_X4_isAnswer pc = some (ins, len)) : decode cX4_isAnswer pc = .ok (ins, len) ∧ qok pc ins len = true := by
  by_cases hb : pc < 15
  · exact qwl_b qd_X4_isAnswer_0 hb h
  · exfalso; unfold qc_X4_isAnswer at h; rw [qblt_f hb] at h; cases h
theorem qd_X4_isMaster_0 : (qwl qc_X4_isMaster cX4_isMaster (cX4_isMaster).data.toList 0 && Nat.ble 24 (cX4_isMaster).data.toList.length) = true := by decide +kernel
theorem qd_X4_isMaster {pc : Nat} {ins : Instr} {len : Nat} (h : qc_X4_isMaster pc = some (ins, len)) : decode cX4_isMaster pc = .ok (ins, len) ∧ qok pc ins len = true := by
  by_cases hb : pc < 24
  · exact qwl_b qd_X4_isMaster_0 hb h
  · exfalso; unfold qc_X4_isMaster at h; rw [qblt_f hb] at h; cases h
theorem qd_X4_isNight_0 : (qwl qc_X4_isNight cX4_isNight (cX4_isNight).data.toList 0 && Nat.ble 24 (cX4_isNight).data.toList.length) = true := by decide +kernel
theorem qd_X4_isNight {pc : Nat} {ins : Instr} {len : Nat} (h : qc_X4_isNight pc = some (ins, len)) : decode cX4_isNight pc = .ok (ins, len) ∧ qok pc ins len = true := by
  by_cases hb : pc < 24
  · exact qwl_b qd_X4_isNight_0 hb h
  · exfalso; unfold qc_X4_isNight at h; rw [qblt_f hb] at h; cases h
theorem qd_X4_addMaster_0 : (qwl qc_X4_addMaster cX4_addMaster (cX4_addMaster).data.toList 0 && Nat.ble 86 (cX4_addMaster).data.toList.length) = true := by decide +kernel
theorem qd_X4_addMaster {pc : Nat} {ins : Instr} {len : Nat} (h : qc_X4_addMaster pc = some (ins, len)) : decode cX4_addMaster pc = .ok (ins, len) ∧ qok pc ins len = true := by
  by_cases hb : pc < 86
  · exact qwl_b qd_X4_addMaster_0 hb h
  · exfalso; unfold qc_X4_addMaster at h; rw [qblt_f hb] at h; cases h
theorem qd_X4_tellStay_0 : (qwl qc_X4_tellStay cX4_tellStay (cX4_tellStay).data.toList 0 && Nat.ble 83 (cX4_tellStay).data.toList.length) = true := by decide +kernel
theorem qd_X4_tellStay {pc : Nat} {ins : Instr} {len : Nat} (h : qc_X4_tellStay pc = some (ins, len)) : decode cX4_tellStay pc = .ok (ins, len) ∧ qok pc ins len = true := by
  by_cases hb : pc < 83
  · exact qwl_b qd_X4_tellStay_0 hb h
  · exfalso; unfold qc_X4_tellStay at h; rw [qblt_f hb] at h; cases h
theorem qd_X4_putHabit_0 : (qwl qc_X4_putHabit cX4_putHabit (cX4_putHabit).data.toList 0 && Nat.ble 40 (cX4_putHabit).data.toList.length) = true := by decide +kernel
theorem qd_X4_putHabit {pc : Nat} {ins : Instr} {len : Nat} (h : qc_X4_putHabit pc = some (ins, len)) : decode cX4_putHabit pc = .ok (ins, len) ∧ qok pc ins len = true := by
  by_cases hb : pc < 40
  · exact qwl_b qd_X4_putHabit_0 hb h
  · exfalso; unfold qc_X4_putHabit at h; rw [qblt_f hb] at h; cases h
theorem qd_X4_addNight_0 : (qwl qc_X4_addNight cX4_addNight (cX4_addNight).data.toList 0 && Nat.ble 128 (cX4_addNight).data.toList.length) = true := by decide +kernel
theorem qd_X4_addNight {pc : Nat} {ins : Instr} {len : Nat} (h : qc_X4_addNight pc = some (ins, len)) : decode cX4_addNight pc = .ok (ins, len) ∧ qok pc ins len = true := by
  by_cases hb : pc < 128
  · exact qwl_b qd_X4_addNight_0 hb h
  · exfalso; unfold qc_X4_addNight at h; rw [qblt_f hb] at h; cases h
theorem qd_X4_guessOne_0 : (qwl qc_X4_guessOne cX4_guessOne (cX4_guessOne).data.toList 0 && Nat.ble 54 (cX4_guessOne).data.toList.length) = true := by decide +kernel
theorem qd_X4_guessOne {pc : Nat} {ins : Instr} {len : Nat} (h : qc_X4_guessOne pc = some (ins, len)) : decode cX4_guessOne pc = .ok (ins, len) ∧ qok pc ins len = true := by
  by_cases hb : pc < 54
  · exact qwl_b qd_X4_guessOne_0 hb h
  · exfalso; unfold qc_X4_guessOne at h; rw [qblt_f hb] at h; cases h
theorem qd_X4_guessRun_0 : (qwl qc_X4_guessRun cX4_guessRun (cX4_guessRun).data.toList 0 && Nat.ble 66 (cX4_guessRun).data.toList.length) = true := by decide +kernel
theorem qd_X4_guessRun {pc : Nat} {ins : Instr} {len : Nat} (h : qc_X4_guessRun pc = some (ins, len)) : decode cX4_guessRun pc = .ok (ins, len) ∧ qok pc ins len = true := by
  by_cases hb : pc < 66
  · exact qwl_b qd_X4_guessRun_0 hb h
  · exfalso; unfold qc_X4_guessRun at h; rw [qblt_f hb] at h; cases h
theorem qd_X4_startWeights_0 : (qwl qc_X4_startWeights cX4_startWeights (cX4_startWeights).data.toList 0 && Nat.ble 22 (cX4_startWeights).data.toList.length) = true := by decide +kernel
theorem qd_X4_startWeights {pc : Nat} {ins : Instr} {len : Nat} (h : qc_X4_startWeights pc = some (ins, len)) : decode cX4_startWeights pc = .ok (ins, len) ∧ qok pc ins len = true := by
  by_cases hb : pc < 22
  · exact qwl_b qd_X4_startWeights_0 hb h
  · exfalso; unfold qc_X4_startWeights at h; rw [qblt_f hb] at h; cases h
theorem qd_X4_multiplyWeights_0 : (qwl qc_X4_multiplyWeights cX4_multiplyWeights (cX4_multiplyWeights).data.toList 0 && Nat.ble 39 (cX4_multiplyWeights).data.toList.length) = true := by decide +kernel
theorem qd_X4_multiplyWeights {pc : Nat} {ins : Instr} {len : Nat} (h : qc_X4_multiplyWeights pc = some (ins, len)) : decode cX4_multiplyWeights pc = .ok (ins, len) ∧ qok pc ins len = true := by
  by_cases hb : pc < 39
  · exact qwl_b qd_X4_multiplyWeights_0 hb h
  · exfalso; unfold qc_X4_multiplyWeights at h; rw [qblt_f hb] at h; cases h
theorem qd_X4_shrinkWeights_0 : (qwl qc_X4_shrinkWeights cX4_shrinkWeights (cX4_shrinkWeights).data.toList 0 && Nat.ble 78 (cX4_shrinkWeights).data.toList.length) = true := by decide +kernel
theorem qd_X4_shrinkWeights {pc : Nat} {ins : Instr} {len : Nat} (h : qc_X4_shrinkWeights pc = some (ins, len)) : decode cX4_shrinkWeights pc = .ok (ins, len) ∧ qok pc ins len = true := by
  by_cases hb : pc < 78
  · exact qwl_b qd_X4_shrinkWeights_0 hb h
  · exfalso; unfold qc_X4_shrinkWeights at h; rw [qblt_f hb] at h; cases h
theorem qd_X4_oddsOf_0 : (qwl qc_X4_oddsOf cX4_oddsOf (cX4_oddsOf).data.toList 0 && Nat.ble 67 (cX4_oddsOf).data.toList.length) = true := by decide +kernel
theorem qd_X4_oddsOf {pc : Nat} {ins : Instr} {len : Nat} (h : qc_X4_oddsOf pc = some (ins, len)) : decode cX4_oddsOf pc = .ok (ins, len) ∧ qok pc ins len = true := by
  by_cases hb : pc < 67
  · exact qwl_b qd_X4_oddsOf_0 hb h
  · exfalso; unfold qc_X4_oddsOf at h; rw [qblt_f hb] at h; cases h
theorem qd_X4_weightOf_0 : (qwl qc_X4_weightOf cX4_weightOf (cX4_weightOf).data.toList 0 && Nat.ble 84 (cX4_weightOf).data.toList.length) = true := by decide +kernel
theorem qd_X4_weightOf {pc : Nat} {ins : Instr} {len : Nat} (h : qc_X4_weightOf pc = some (ins, len)) : decode cX4_weightOf pc = .ok (ins, len) ∧ qok pc ins len = true := by
  by_cases hb : pc < 84
  · exact qwl_b qd_X4_weightOf_0 hb h
  · exfalso; unfold qc_X4_weightOf at h; rw [qblt_f hb] at h; cases h
theorem qd_X4_canHaveBeenThere_0 : (qwl qc_X4_canHaveBeenThere cX4_canHaveBeenThere (cX4_canHaveBeenThere).data.toList 0 && Nat.ble 74 (cX4_canHaveBeenThere).data.toList.length) = true := by decide +kernel
theorem qd_X4_canHaveBeenThere {pc : Nat} {ins : Instr} {len : Nat} (h : qc_X4_canHaveBeenThere pc = some (ins, len)) : decode cX4_canHaveBeenThere pc = .ok (ins, len) ∧ qok pc ins len = true := by
  by_cases hb : pc < 74
  · exact qwl_b qd_X4_canHaveBeenThere_0 hb h
  · exfalso; unfold qc_X4_canHaveBeenThere at h; rw [qblt_f hb] at h; cases h
theorem qd_X4_gameWeight_0 : (qwl qc_X4_gameWeight cX4_gameWeight (cX4_gameWeight).data.toList 0 && Nat.ble 47 (cX4_gameWeight).data.toList.length) = true := by decide +kernel
theorem qd_X4_gameWeight {pc : Nat} {ins : Instr} {len : Nat} (h : qc_X4_gameWeight pc = some (ins, len)) : decode cX4_gameWeight pc = .ok (ins, len) ∧ qok pc ins len = true := by
  by_cases hb : pc < 47
  · exact qwl_b qd_X4_gameWeight_0 hb h
  · exfalso; unfold qc_X4_gameWeight at h; rw [qblt_f hb] at h; cases h
theorem qd_X5_init_0 : (qwl qc_X5_init cX5_init (cX5_init).data.toList 0 && Nat.ble 91 (cX5_init).data.toList.length) = true := by decide +kernel
theorem qd_X5_init {pc : Nat} {ins : Instr} {len : Nat} (h : qc_X5_init pc = some (ins, len)) : decode cX5_init pc = .ok (ins, len) ∧ qok pc ins len = true := by
  by_cases hb : pc < 91
  · exact qwl_b qd_X5_init_0 hb h
  · exfalso; unfold qc_X5_init at h; rw [qblt_f hb] at h; cases h
theorem qd_X5_learn_0 : (qwl qc_X5_learn cX5_learn (cX5_learn).data.toList 0 && Nat.ble 52 (cX5_learn).data.toList.length) = true := by decide +kernel
theorem qd_X5_learn {pc : Nat} {ins : Instr} {len : Nat} (h : qc_X5_learn pc = some (ins, len)) : decode cX5_learn pc = .ok (ins, len) ∧ qok pc ins len = true := by
  by_cases hb : pc < 52
  · exact qwl_b qd_X5_learn_0 hb h
  · exfalso; unfold qc_X5_learn at h; rw [qblt_f hb] at h; cases h
theorem qd_X5_keep_0 : (qwl qc_X5_keep cX5_keep (cX5_keep).data.toList 0 && Nat.ble 29 (cX5_keep).data.toList.length) = true := by decide +kernel
theorem qd_X5_keep {pc : Nat} {ins : Instr} {len : Nat} (h : qc_X5_keep pc = some (ins, len)) : decode cX5_keep pc = .ok (ins, len) ∧ qok pc ins len = true := by
  by_cases hb : pc < 29
  · exact qwl_b qd_X5_keep_0 hb h
  · exfalso; unfold qc_X5_keep at h; rw [qblt_f hb] at h; cases h
theorem qd_X5_checkReason_0 : (qwl qc_X5_checkReason cX5_checkReason (cX5_checkReason).data.toList 0 && Nat.ble 89 (cX5_checkReason).data.toList.length) = true := by decide +kernel
theorem qd_X5_checkReason {pc : Nat} {ins : Instr} {len : Nat} (h : qc_X5_checkReason pc = some (ins, len)) : decode cX5_checkReason pc = .ok (ins, len) ∧ qok pc ins len = true := by
  by_cases hb : pc < 89
  · exact qwl_b qd_X5_checkReason_0 hb h
  · exfalso; unfold qc_X5_checkReason at h; rw [qblt_f hb] at h; cases h
theorem qd_X5_checkChoice_0 : (qwl qc_X5_checkChoice cX5_checkChoice (cX5_checkChoice).data.toList 0 && Nat.ble 53 (cX5_checkChoice).data.toList.length) = true := by decide +kernel
theorem qd_X5_checkChoice {pc : Nat} {ins : Instr} {len : Nat} (h : qc_X5_checkChoice pc = some (ins, len)) : decode cX5_checkChoice pc = .ok (ins, len) ∧ qok pc ins len = true := by
  by_cases hb : pc < 53
  · exact qwl_b qd_X5_checkChoice_0 hb h
  · exfalso; unfold qc_X5_checkChoice at h; rw [qblt_f hb] at h; cases h
theorem qd_X5_checkCondition_0 : (qwl qc_X5_checkCondition cX5_checkCondition (cX5_checkCondition).data.toList 0 && Nat.ble 103 (cX5_checkCondition).data.toList.length) = true := by decide +kernel
theorem qd_X5_checkCondition {pc : Nat} {ins : Instr} {len : Nat} (h : qc_X5_checkCondition pc = some (ins, len)) : decode cX5_checkCondition pc = .ok (ins, len) ∧ qok pc ins len = true := by
  by_cases hb : pc < 103
  · exact qwl_b qd_X5_checkCondition_0 hb h
  · exfalso; unfold qc_X5_checkCondition at h; rw [qblt_f hb] at h; cases h
theorem qd_X5_checkComparison_0 : (qwl qc_X5_checkComparison cX5_checkComparison (cX5_checkComparison).data.toList 0 && Nat.ble 36 (cX5_checkComparison).data.toList.length) = true := by decide +kernel
theorem qd_X5_checkComparison {pc : Nat} {ins : Instr} {len : Nat} (h : qc_X5_checkComparison pc = some (ins, len)) : decode cX5_checkComparison pc = .ok (ins, len) ∧ qok pc ins len = true := by
  by_cases hb : pc < 36
  · exact qwl_b qd_X5_checkComparison_0 hb h
  · exfalso; unfold qc_X5_checkComparison at h; rw [qblt_f hb] at h; cases h
theorem qd_X5_checkSum_0 : (qwl qc_X5_checkSum cX5_checkSum (cX5_checkSum).data.toList 0 && Nat.ble 94 (cX5_checkSum).data.toList.length) = true := by decide +kernel
theorem qd_X5_checkSum {pc : Nat} {ins : Instr} {len : Nat} (h : qc_X5_checkSum pc = some (ins, len)) : decode cX5_checkSum pc = .ok (ins, len) ∧ qok pc ins len = true := by
  by_cases hb : pc < 94
  · exact qwl_b qd_X5_checkSum_0 hb h
  · exfalso; unfold qc_X5_checkSum at h; rw [qblt_f hb] at h; cases h
theorem qd_X5_checkUnit_0 : (qwl qc_X5_checkUnit cX5_checkUnit (cX5_checkUnit).data.toList 0 && Nat.ble 52 (cX5_checkUnit).data.toList.length) = true := by decide +kernel
theorem qd_X5_checkUnit {pc : Nat} {ins : Instr} {len : Nat} (h : qc_X5_checkUnit pc = some (ins, len)) : decode cX5_checkUnit pc = .ok (ins, len) ∧ qok pc ins len = true := by
  by_cases hb : pc < 52
  · exact qwl_b qd_X5_checkUnit_0 hb h
  · exfalso; unfold qc_X5_checkUnit at h; rw [qblt_f hb] at h; cases h
theorem qd_X5_putFacts_0 : (qwl qc_X5_putFacts cX5_putFacts (cX5_putFacts).data.toList 0 && Nat.ble 86 (cX5_putFacts).data.toList.length) = true := by decide +kernel
theorem qd_X5_putFacts {pc : Nat} {ins : Instr} {len : Nat} (h : qc_X5_putFacts pc = some (ins, len)) : decode cX5_putFacts pc = .ok (ins, len) ∧ qok pc ins len = true := by
  by_cases hb : pc < 86
  · exact qwl_b qd_X5_putFacts_0 hb h
  · exfalso; unfold qc_X5_putFacts at h; rw [qblt_f hb] at h; cases h
theorem qd_X5_reasonCount_0 : (qwl qc_X5_reasonCount cX5_reasonCount (cX5_reasonCount).data.toList 0 && Nat.ble 5 (cX5_reasonCount).data.toList.length) = true := by decide +kernel
theorem qd_X5_reasonCount {pc : Nat} {ins : Instr} {len : Nat} (h : qc_X5_reasonCount pc = some (ins, len)) : decode cX5_reasonCount pc = .ok (ins, len) ∧ qok pc ins len = true := by
  by_cases hb : pc < 5
  · exact qwl_b qd_X5_reasonCount_0 hb h
  · exfalso; unfold qc_X5_reasonCount at h; rw [qblt_f hb] at h; cases h
theorem qd_X5_weigh_0 : (qwl qc_X5_weigh cX5_weigh (cX5_weigh).data.toList 0 && Nat.ble 77 (cX5_weigh).data.toList.length) = true := by decide +kernel
theorem qd_X5_weigh {pc : Nat} {ins : Instr} {len : Nat} (h : qc_X5_weigh pc = some (ins, len)) : decode cX5_weigh pc = .ok (ins, len) ∧ qok pc ins len = true := by
  by_cases hb : pc < 77
  · exact qwl_b qd_X5_weigh_0 hb h
  · exfalso; unfold qc_X5_weigh at h; rw [qblt_f hb] at h; cases h
theorem qd_X5_code_0 : (qwl qc_X5_code cX5_code (cX5_code).data.toList 0 && Nat.ble 34 (cX5_code).data.toList.length) = true := by decide +kernel
theorem qd_X5_code {pc : Nat} {ins : Instr} {len : Nat} (h : qc_X5_code pc = some (ins, len)) : decode cX5_code pc = .ok (ins, len) ∧ qok pc ins len = true := by
  by_cases hb : pc < 34
  · exact qwl_b qd_X5_code_0 hb h
  · exfalso; unfold qc_X5_code at h; rw [qblt_f hb] at h; cases h
theorem qd_X5_takes_0 : (qwl qc_X5_takes cX5_takes (cX5_takes).data.toList 0 && Nat.ble 22 (cX5_takes).data.toList.length) = true := by decide +kernel
theorem qd_X5_takes {pc : Nat} {ins : Instr} {len : Nat} (h : qc_X5_takes pc = some (ins, len)) : decode cX5_takes pc = .ok (ins, len) ∧ qok pc ins len = true := by
  by_cases hb : pc < 22
  · exact qwl_b qd_X5_takes_0 hb h
  · exfalso; unfold qc_X5_takes at h; rw [qblt_f hb] at h; cases h
theorem qd_X5_choiceHolds_0 : (qwl qc_X5_choiceHolds cX5_choiceHolds (cX5_choiceHolds).data.toList 0 && Nat.ble 80 (cX5_choiceHolds).data.toList.length) = true := by decide +kernel
theorem qd_X5_choiceHolds {pc : Nat} {ins : Instr} {len : Nat} (h : qc_X5_choiceHolds pc = some (ins, len)) : decode cX5_choiceHolds pc = .ok (ins, len) ∧ qok pc ins len = true := by
  by_cases hb : pc < 80
  · exact qwl_b qd_X5_choiceHolds_0 hb h
  · exfalso; unfold qc_X5_choiceHolds at h; rw [qblt_f hb] at h; cases h
theorem qd_X5_conditionHolds_0 : (qwl qc_X5_conditionHolds cX5_conditionHolds (cX5_conditionHolds).data.toList 0 && Nat.ble 67 (cX5_conditionHolds).data.toList.length) = true := by decide +kernel
theorem qd_X5_conditionHolds {pc : Nat} {ins : Instr} {len : Nat} (h : qc_X5_conditionHolds pc = some (ins, len)) : decode cX5_conditionHolds pc = .ok (ins, len) ∧ qok pc ins len = true := by
  by_cases hb : pc < 67
  · exact qwl_b qd_X5_conditionHolds_0 hb h
  · exfalso; unfold qc_X5_conditionHolds at h; rw [qblt_f hb] at h; cases h
theorem qd_X5_comparisonHolds_0 : (qwl qc_X5_comparisonHolds cX5_comparisonHolds (cX5_comparisonHolds).data.toList 0 && Nat.ble 117 (cX5_comparisonHolds).data.toList.length) = true := by decide +kernel
theorem qd_X5_comparisonHolds {pc : Nat} {ins : Instr} {len : Nat} (h : qc_X5_comparisonHolds pc = some (ins, len)) : decode cX5_comparisonHolds pc = .ok (ins, len) ∧ qok pc ins len = true := by
  by_cases hb : pc < 117
  · exact qwl_b qd_X5_comparisonHolds_0 hb h
  · exfalso; unfold qc_X5_comparisonHolds at h; rw [qblt_f hb] at h; cases h
theorem qd_X5_addUp_0 : (qwl qc_X5_addUp cX5_addUp (cX5_addUp).data.toList 0 && Nat.ble 135 (cX5_addUp).data.toList.length) = true := by decide +kernel
theorem qd_X5_addUp {pc : Nat} {ins : Instr} {len : Nat} (h : qc_X5_addUp pc = some (ins, len)) : decode cX5_addUp pc = .ok (ins, len) ∧ qok pc ins len = true := by
  by_cases hb : pc < 135
  · exact qwl_b qd_X5_addUp_0 hb h
  · exfalso; unfold qc_X5_addUp at h; rw [qblt_f hb] at h; cases h
theorem qd_X5_takeUnit_0 : (qwl qc_X5_takeUnit cX5_takeUnit (cX5_takeUnit).data.toList 0 && Nat.ble 123 (cX5_takeUnit).data.toList.length) = true := by decide +kernel
theorem qd_X5_takeUnit {pc : Nat} {ins : Instr} {len : Nat} (h : qc_X5_takeUnit pc = some (ins, len)) : decode cX5_takeUnit pc = .ok (ins, len) ∧ qok pc ins len = true := by
  by_cases hb : pc < 123
  · exact qwl_b qd_X5_takeUnit_0 hb h
  · exfalso; unfold qc_X5_takeUnit at h; rw [qblt_f hb] at h; cases h
theorem qd_X6_init_0 : (qwl qc_X6_init cX6_init (cX6_init).data.toList 0 && Nat.ble 43 (cX6_init).data.toList.length) = true := by decide +kernel
theorem qd_X6_init {pc : Nat} {ins : Instr} {len : Nat} (h : qc_X6_init pc = some (ins, len)) : decode cX6_init pc = .ok (ins, len) ∧ qok pc ins len = true := by
  by_cases hb : pc < 43
  · exact qwl_b qd_X6_init_0 hb h
  · exfalso; unfold qc_X6_init at h; rw [qblt_f hb] at h; cases h
theorem qd_X6_findFor_0 : (qwl qc_X6_findFor cX6_findFor (cX6_findFor).data.toList 0 && Nat.ble 57 (cX6_findFor).data.toList.length) = true := by decide +kernel
theorem qd_X6_findFor {pc : Nat} {ins : Instr} {len : Nat} (h : qc_X6_findFor pc = some (ins, len)) : decode cX6_findFor pc = .ok (ins, len) ∧ qok pc ins len = true := by
  by_cases hb : pc < 57
  · exact qwl_b qd_X6_findFor_0 hb h
  · exfalso; unfold qc_X6_findFor at h; rw [qblt_f hb] at h; cases h
theorem qd_X6_findSets_0 : (qwl qc_X6_findSets cX6_findSets (cX6_findSets).data.toList 0 && Nat.ble 94 (cX6_findSets).data.toList.length) = true := by decide +kernel
theorem qd_X6_findSets {pc : Nat} {ins : Instr} {len : Nat} (h : qc_X6_findSets pc = some (ins, len)) : decode cX6_findSets pc = .ok (ins, len) ∧ qok pc ins len = true := by
  by_cases hb : pc < 94
  · exact qwl_b qd_X6_findSets_0 hb h
  · exfalso; unfold qc_X6_findSets at h; rw [qblt_f hb] at h; cases h
theorem qd_X6_nextOfAsMany_0 : (qwl qc_X6_nextOfAsMany cX6_nextOfAsMany (cX6_nextOfAsMany).data.toList 0 && Nat.ble 22 (cX6_nextOfAsMany).data.toList.length) = true := by decide +kernel
theorem qd_X6_nextOfAsMany {pc : Nat} {ins : Instr} {len : Nat} (h : qc_X6_nextOfAsMany pc = some (ins, len)) : decode cX6_nextOfAsMany pc = .ok (ins, len) ∧ qok pc ins len = true := by
  by_cases hb : pc < 22
  · exact qwl_b qd_X6_nextOfAsMany_0 hb h
  · exfalso; unfold qc_X6_nextOfAsMany at h; rw [qblt_f hb] at h; cases h
theorem qd_X6_findMoves_0 : (qwl qc_X6_findMoves cX6_findMoves (cX6_findMoves).data.toList 0 && Nat.ble 135 (cX6_findMoves).data.toList.length) = true := by decide +kernel
theorem qd_X6_findMoves {pc : Nat} {ins : Instr} {len : Nat} (h : qc_X6_findMoves pc = some (ins, len)) : decode cX6_findMoves pc = .ok (ins, len) ∧ qok pc ins len = true := by
  by_cases hb : pc < 135
  · exact qwl_b qd_X6_findMoves_0 hb h
  · exfalso; unfold qc_X6_findMoves at h; rw [qblt_f hb] at h; cases h
theorem qd_X6_isMove_0 : (qwl qc_X6_isMove cX6_isMove (cX6_isMove).data.toList 0 && Nat.ble 26 (cX6_isMove).data.toList.length) = true := by decide +kernel
theorem qd_X6_isMove {pc : Nat} {ins : Instr} {len : Nat} (h : qc_X6_isMove pc = some (ins, len)) : decode cX6_isMove pc = .ok (ins, len) ∧ qok pc ins len = true := by
  by_cases hb : pc < 26
  · exact qwl_b qd_X6_isMove_0 hb h
  · exfalso; unfold qc_X6_isMove at h; rw [qblt_f hb] at h; cases h
theorem qd_X6_howMany_0 : (qwl qc_X6_howMany cX6_howMany (cX6_howMany).data.toList 0 && Nat.ble 5 (cX6_howMany).data.toList.length) = true := by decide +kernel
theorem qd_X6_howMany {pc : Nat} {ins : Instr} {len : Nat} (h : qc_X6_howMany pc = some (ins, len)) : decode cX6_howMany pc = .ok (ins, len) ∧ qok pc ins len = true := by
  by_cases hb : pc < 5
  · exact qwl_b qd_X6_howMany_0 hb h
  · exfalso; unfold qc_X6_howMany at h; rw [qblt_f hb] at h; cases h
theorem qd_X6_setOf_0 : (qwl qc_X6_setOf cX6_setOf (cX6_setOf).data.toList 0 && Nat.ble 30 (cX6_setOf).data.toList.length) = true := by decide +kernel
theorem qd_X6_setOf {pc : Nat} {ins : Instr} {len : Nat} (h : qc_X6_setOf pc = some (ins, len)) : decode cX6_setOf pc = .ok (ins, len) ∧ qok pc ins len = true := by
  by_cases hb : pc < 30
  · exact qwl_b qd_X6_setOf_0 hb h
  · exfalso; unfold qc_X6_setOf at h; rw [qblt_f hb] at h; cases h
theorem qd_X6_spread_0 : (qwl qc_X6_spread cX6_spread (cX6_spread).data.toList 0 && Nat.ble 148 (cX6_spread).data.toList.length) = true := by decide +kernel
theorem qd_X6_spread {pc : Nat} {ins : Instr} {len : Nat} (h : qc_X6_spread pc = some (ins, len)) : decode cX6_spread pc = .ok (ins, len) ∧ qok pc ins len = true := by
  by_cases hb : pc < 148
  · exact qwl_b qd_X6_spread_0 hb h
  · exfalso; unfold qc_X6_spread at h; rw [qblt_f hb] at h; cases h
theorem qd_X6_spreadOne_0 : (qwl qc_X6_spreadOne cX6_spreadOne (cX6_spreadOne).data.toList 0 && Nat.ble 54 (cX6_spreadOne).data.toList.length) = true := by decide +kernel
theorem qd_X6_spreadOne {pc : Nat} {ins : Instr} {len : Nat} (h : qc_X6_spreadOne pc = some (ins, len)) : decode cX6_spreadOne pc = .ok (ins, len) ∧ qok pc ins len = true := by
  by_cases hb : pc < 54
  · exact qwl_b qd_X6_spreadOne_0 hb h
  · exfalso; unfold qc_X6_spreadOne at h; rw [qblt_f hb] at h; cases h
theorem qd_X6_findUnseen_0 : (qwl qc_X6_findUnseen cX6_findUnseen (cX6_findUnseen).data.toList 0 && Nat.ble 68 (cX6_findUnseen).data.toList.length) = true := by decide +kernel
theorem qd_X6_findUnseen {pc : Nat} {ins : Instr} {len : Nat} (h : qc_X6_findUnseen pc = some (ins, len)) : decode cX6_findUnseen pc = .ok (ins, len) ∧ qok pc ins len = true := by
  by_cases hb : pc < 68
  · exact qwl_b qd_X6_findUnseen_0 hb h
  · exfalso; unfold qc_X6_findUnseen at h; rw [qblt_f hb] at h; cases h
theorem qd_X6_areAllSeen_0 : (qwl qc_X6_areAllSeen cX6_areAllSeen (cX6_areAllSeen).data.toList 0 && Nat.ble 38 (cX6_areAllSeen).data.toList.length) = true := by decide +kernel
theorem qd_X6_areAllSeen {pc : Nat} {ins : Instr} {len : Nat} (h : qc_X6_areAllSeen pc = some (ins, len)) : decode cX6_areAllSeen pc = .ok (ins, len) ∧ qok pc ins len = true := by
  by_cases hb : pc < 38
  · exact qwl_b qd_X6_areAllSeen_0 hb h
  · exfalso; unfold qc_X6_areAllSeen at h; rw [qblt_f hb] at h; cases h
theorem qd_X6_putRow_0 : (qwl qc_X6_putRow cX6_putRow (cX6_putRow).data.toList 0 && Nat.ble 20 (cX6_putRow).data.toList.length) = true := by decide +kernel
theorem qd_X6_putRow {pc : Nat} {ins : Instr} {len : Nat} (h : qc_X6_putRow pc = some (ins, len)) : decode cX6_putRow pc = .ok (ins, len) ∧ qok pc ins len = true := by
  by_cases hb : pc < 20
  · exact qwl_b qd_X6_putRow_0 hb h
  · exfalso; unfold qc_X6_putRow at h; rw [qblt_f hb] at h; cases h
theorem qd_X7_init_0 : (qwl qc_X7_init cX7_init (cX7_init).data.toList 0 && Nat.ble 64 (cX7_init).data.toList.length) = true := by decide +kernel
theorem qd_X7_init {pc : Nat} {ins : Instr} {len : Nat} (h : qc_X7_init pc = some (ins, len)) : decode cX7_init pc = .ok (ins, len) ∧ qok pc ins len = true := by
  by_cases hb : pc < 64
  · exact qwl_b qd_X7_init_0 hb h
  · exfalso; unfold qc_X7_init at h; rw [qblt_f hb] at h; cases h
theorem qd_X7_learn_0 : (qwl qc_X7_learn cX7_learn (cX7_learn).data.toList 0 && Nat.ble 50 (cX7_learn).data.toList.length) = true := by decide +kernel
theorem qd_X7_learn {pc : Nat} {ins : Instr} {len : Nat} (h : qc_X7_learn pc = some (ins, len)) : decode cX7_learn pc = .ok (ins, len) ∧ qok pc ins len = true := by
  by_cases hb : pc < 50
  · exact qwl_b qd_X7_learn_0 hb h
  · exfalso; unfold qc_X7_learn at h; rw [qblt_f hb] at h; cases h
theorem qd_X7_learnStep_0 : (qwl qc_X7_learnStep cX7_learnStep (cX7_learnStep).data.toList 0 && Nat.ble 114 (cX7_learnStep).data.toList.length) = true := by decide +kernel
theorem qd_X7_learnStep {pc : Nat} {ins : Instr} {len : Nat} (h : qc_X7_learnStep pc = some (ins, len)) : decode cX7_learnStep pc = .ok (ins, len) ∧ qok pc ins len = true := by
  by_cases hb : pc < 114
  · exact qwl_b qd_X7_learnStep_0 hb h
  · exfalso; unfold qc_X7_learnStep at h; rw [qblt_f hb] at h; cases h
theorem qd_X7_isOfADoor_0 : (qwl qc_X7_isOfADoor cX7_isOfADoor (cX7_isOfADoor).data.toList 0 && Nat.ble 20 (cX7_isOfADoor).data.toList.length) = true := by decide +kernel
theorem qd_X7_isOfADoor {pc : Nat} {ins : Instr} {len : Nat} (h : qc_X7_isOfADoor pc = some (ins, len)) : decode cX7_isOfADoor pc = .ok (ins, len) ∧ qok pc ins len = true := by
  by_cases hb : pc < 20
  · exact qwl_b qd_X7_isOfADoor_0 hb h
  · exfalso; unfold qc_X7_isOfADoor at h; rw [qblt_f hb] at h; cases h
theorem qd_X7_stepCount_0 : (qwl qc_X7_stepCount cX7_stepCount (cX7_stepCount).data.toList 0 && Nat.ble 5 (cX7_stepCount).data.toList.length) = true := by decide +kernel
theorem qd_X7_stepCount {pc : Nat} {ins : Instr} {len : Nat} (h : qc_X7_stepCount pc = some (ins, len)) : decode cX7_stepCount pc = .ok (ins, len) ∧ qok pc ins len = true := by
  by_cases hb : pc < 5
  · exact qwl_b qd_X7_stepCount_0 hb h
  · exfalso; unfold qc_X7_stepCount at h; rw [qblt_f hb] at h; cases h
theorem qd_X7_perform_0 : (qwl qc_X7_perform cX7_perform (cX7_perform).data.toList 0 && Nat.ble 113 (cX7_perform).data.toList.length) = true := by decide +kernel
theorem qd_X7_perform {pc : Nat} {ins : Instr} {len : Nat} (h : qc_X7_perform pc = some (ins, len)) : decode cX7_perform pc = .ok (ins, len) ∧ qok pc ins len = true := by
  by_cases hb : pc < 113
  · exact qwl_b qd_X7_perform_0 hb h
  · exfalso; unfold qc_X7_perform at h; rw [qblt_f hb] at h; cases h
theorem qd_X7_takeStep_0 : (qwl qc_X7_takeStep cX7_takeStep (cX7_takeStep).data.toList 0 && Nat.ble 112 (cX7_takeStep).data.toList.length) = true := by decide +kernel
theorem qd_X7_takeStep {pc : Nat} {ins : Instr} {len : Nat} (h : qc_X7_takeStep pc = some (ins, len)) : decode cX7_takeStep pc = .ok (ins, len) ∧ qok pc ins len = true := by
  by_cases hb : pc < 112
  · exact qwl_b qd_X7_takeStep_0 hb h
  · exfalso; unfold qc_X7_takeStep at h; rw [qblt_f hb] at h; cases h
theorem qd_X7_viewNow_0 : (qwl qc_X7_viewNow cX7_viewNow (cX7_viewNow).data.toList 0 && Nat.ble 62 (cX7_viewNow).data.toList.length) = true := by decide +kernel
theorem qd_X7_viewNow {pc : Nat} {ins : Instr} {len : Nat} (h : qc_X7_viewNow pc = some (ins, len)) : decode cX7_viewNow pc = .ok (ins, len) ∧ qok pc ins len = true := by
  by_cases hb : pc < 62
  · exact qwl_b qd_X7_viewNow_0 hb h
  · exfalso; unfold qc_X7_viewNow at h; rw [qblt_f hb] at h; cases h
theorem qd_X7_secondsOf_0 : (qwl qc_X7_secondsOf cX7_secondsOf (cX7_secondsOf).data.toList 0 && Nat.ble 41 (cX7_secondsOf).data.toList.length) = true := by decide +kernel
theorem qd_X7_secondsOf {pc : Nat} {ins : Instr} {len : Nat} (h : qc_X7_secondsOf pc = some (ins, len)) : decode cX7_secondsOf pc = .ok (ins, len) ∧ qok pc ins len = true := by
  by_cases hb : pc < 41
  · exact qwl_b qd_X7_secondsOf_0 hb h
  · exfalso; unfold qc_X7_secondsOf at h; rw [qblt_f hb] at h; cases h
theorem qd_X7_viewOf_0 : (qwl qc_X7_viewOf cX7_viewOf (cX7_viewOf).data.toList 0 && Nat.ble 29 (cX7_viewOf).data.toList.length) = true := by decide +kernel
theorem qd_X7_viewOf {pc : Nat} {ins : Instr} {len : Nat} (h : qc_X7_viewOf pc = some (ins, len)) : decode cX7_viewOf pc = .ok (ins, len) ∧ qok pc ins len = true := by
  by_cases hb : pc < 29
  · exact qwl_b qd_X7_viewOf_0 hb h
  · exfalso; unfold qc_X7_viewOf at h; rw [qblt_f hb] at h; cases h
theorem qd_X7_allSeconds_0 : (qwl qc_X7_allSeconds cX7_allSeconds (cX7_allSeconds).data.toList 0 && Nat.ble 28 (cX7_allSeconds).data.toList.length) = true := by decide +kernel
theorem qd_X7_allSeconds {pc : Nat} {ins : Instr} {len : Nat} (h : qc_X7_allSeconds pc = some (ins, len)) : decode cX7_allSeconds pc = .ok (ins, len) ∧ qok pc ins len = true := by
  by_cases hb : pc < 28
  · exact qwl_b qd_X7_allSeconds_0 hb h
  · exfalso; unfold qc_X7_allSeconds at h; rw [qblt_f hb] at h; cases h
theorem qd_X7_viewIn_0 : (qwl qc_X7_viewIn cX7_viewIn (cX7_viewIn).data.toList 0 && Nat.ble 45 (cX7_viewIn).data.toList.length) = true := by decide +kernel
theorem qd_X7_viewIn {pc : Nat} {ins : Instr} {len : Nat} (h : qc_X7_viewIn pc = some (ins, len)) : decode cX7_viewIn pc = .ok (ins, len) ∧ qok pc ins len = true := by
  by_cases hb : pc < 45
  · exact qwl_b qd_X7_viewIn_0 hb h
  · exfalso; unfold qc_X7_viewIn at h; rw [qblt_f hb] at h; cases h
theorem qd_X7_factOf_0 : (qwl qc_X7_factOf cX7_factOf (cX7_factOf).data.toList 0 && Nat.ble 54 (cX7_factOf).data.toList.length) = true := by decide +kernel
theorem qd_X7_factOf {pc : Nat} {ins : Instr} {len : Nat} (h : qc_X7_factOf pc = some (ins, len)) : decode cX7_factOf pc = .ok (ins, len) ∧ qok pc ins len = true := by
  by_cases hb : pc < 54
  · exact qwl_b qd_X7_factOf_0 hb h
  · exfalso; unfold qc_X7_factOf at h; rw [qblt_f hb] at h; cases h
theorem qd_X8_init_0 : (qwl qc_X8_init cX8_init (cX8_init).data.toList 0 && Nat.ble 19 (cX8_init).data.toList.length) = true := by decide +kernel
theorem qd_X8_init {pc : Nat} {ins : Instr} {len : Nat} (h : qc_X8_init pc = some (ins, len)) : decode cX8_init pc = .ok (ins, len) ∧ qok pc ins len = true := by
  by_cases hb : pc < 19
  · exact qwl_b qd_X8_init_0 hb h
  · exfalso; unfold qc_X8_init at h; rw [qblt_f hb] at h; cases h
theorem qd_X8_put_0 : (qwl qc_X8_put cX8_put (cX8_put).data.toList 0 && Nat.ble 11 (cX8_put).data.toList.length) = true := by decide +kernel
theorem qd_X8_put {pc : Nat} {ins : Instr} {len : Nat} (h : qc_X8_put pc = some (ins, len)) : decode cX8_put pc = .ok (ins, len) ∧ qok pc ins len = true := by
  by_cases hb : pc < 11
  · exact qwl_b qd_X8_put_0 hb h
  · exfalso; unfold qc_X8_put at h; rw [qblt_f hb] at h; cases h
theorem qd_X8_append_0 : (qwl qc_X8_append cX8_append (cX8_append).data.toList 0 && Nat.ble 35 (cX8_append).data.toList.length) = true := by decide +kernel
theorem qd_X8_append {pc : Nat} {ins : Instr} {len : Nat} (h : qc_X8_append pc = some (ins, len)) : decode cX8_append pc = .ok (ins, len) ∧ qok pc ins len = true := by
  by_cases hb : pc < 35
  · exact qwl_b qd_X8_append_0 hb h
  · exfalso; unfold qc_X8_append at h; rw [qblt_f hb] at h; cases h
theorem qd_X8_multiplyBy_0 : (qwl qc_X8_multiplyBy cX8_multiplyBy (cX8_multiplyBy).data.toList 0 && Nat.ble 66 (cX8_multiplyBy).data.toList.length) = true := by decide +kernel
theorem qd_X8_multiplyBy {pc : Nat} {ins : Instr} {len : Nat} (h : qc_X8_multiplyBy pc = some (ins, len)) : decode cX8_multiplyBy pc = .ok (ins, len) ∧ qok pc ins len = true := by
  by_cases hb : pc < 66
  · exact qwl_b qd_X8_multiplyBy_0 hb h
  · exfalso; unfold qc_X8_multiplyBy at h; rw [qblt_f hb] at h; cases h
theorem qd_X8_divideBy_0 : (qwl qc_X8_divideBy cX8_divideBy (cX8_divideBy).data.toList 0 && Nat.ble 64 (cX8_divideBy).data.toList.length) = true := by decide +kernel
theorem qd_X8_divideBy {pc : Nat} {ins : Instr} {len : Nat} (h : qc_X8_divideBy pc = some (ins, len)) : decode cX8_divideBy pc = .ok (ins, len) ∧ qok pc ins len = true := by
  by_cases hb : pc < 64
  · exact qwl_b qd_X8_divideBy_0 hb h
  · exfalso; unfold qc_X8_divideBy at h; rw [qblt_f hb] at h; cases h
theorem qd_X8_dropEmptyParts_0 : (qwl qc_X8_dropEmptyParts cX8_dropEmptyParts (cX8_dropEmptyParts).data.toList 0 && Nat.ble 38 (cX8_dropEmptyParts).data.toList.length) = true := by decide +kernel
theorem qd_X8_dropEmptyParts {pc : Nat} {ins : Instr} {len : Nat} (h : qc_X8_dropEmptyParts pc = some (ins, len)) : decode cX8_dropEmptyParts pc = .ok (ins, len) ∧ qok pc ins len = true := by
  by_cases hb : pc < 38
  · exact qwl_b qd_X8_dropEmptyParts_0 hb h
  · exfalso; unfold qc_X8_dropEmptyParts at h; rw [qblt_f hb] at h; cases h
theorem qd_X8_add_0 : (qwl qc_X8_add cX8_add (cX8_add).data.toList 0 && Nat.ble 91 (cX8_add).data.toList.length) = true := by decide +kernel
theorem qd_X8_add {pc : Nat} {ins : Instr} {len : Nat} (h : qc_X8_add pc = some (ins, len)) : decode cX8_add pc = .ok (ins, len) ∧ qok pc ins len = true := by
  by_cases hb : pc < 91
  · exact qwl_b qd_X8_add_0 hb h
  · exfalso; unfold qc_X8_add at h; rw [qblt_f hb] at h; cases h
theorem qd_X8_partAt_0 : (qwl qc_X8_partAt cX8_partAt (cX8_partAt).data.toList 0 && Nat.ble 30 (cX8_partAt).data.toList.length) = true := by decide +kernel
theorem qd_X8_partAt {pc : Nat} {ins : Instr} {len : Nat} (h : qc_X8_partAt pc = some (ins, len)) : decode cX8_partAt pc = .ok (ins, len) ∧ qok pc ins len = true := by
  by_cases hb : pc < 30
  · exact qwl_b qd_X8_partAt_0 hb h
  · exfalso; unfold qc_X8_partAt at h; rw [qblt_f hb] at h; cases h
theorem qd_X8_against_0 : (qwl qc_X8_against cX8_against (cX8_against).data.toList 0 && Nat.ble 41 (cX8_against).data.toList.length) = true := by decide +kernel
theorem qd_X8_against {pc : Nat} {ins : Instr} {len : Nat} (h : qc_X8_against pc = some (ins, len)) : decode cX8_against pc = .ok (ins, len) ∧ qok pc ins len = true := by
  by_cases hb : pc < 41
  · exact qwl_b qd_X8_against_0 hb h
  · exfalso; unfold qc_X8_against at h; rw [qblt_f hb] at h; cases h
theorem qd_X9_init_0 : (qwl qc_X9_init cX9_init (cX9_init).data.toList 0 && Nat.ble 57 (cX9_init).data.toList.length) = true := by decide +kernel
theorem qd_X9_init {pc : Nat} {ins : Instr} {len : Nat} (h : qc_X9_init pc = some (ins, len)) : decode cX9_init pc = .ok (ins, len) ∧ qok pc ins len = true := by
  by_cases hb : pc < 57
  · exact qwl_b qd_X9_init_0 hb h
  · exfalso; unfold qc_X9_init at h; rw [qblt_f hb] at h; cases h
theorem qd_X9_hasRoomFor_0 : (qwl qc_X9_hasRoomFor cX9_hasRoomFor (cX9_hasRoomFor).data.toList 0 && Nat.ble 18 (cX9_hasRoomFor).data.toList.length) = true := by decide +kernel
theorem qd_X9_hasRoomFor {pc : Nat} {ins : Instr} {len : Nat} (h : qc_X9_hasRoomFor pc = some (ins, len)) : decode cX9_hasRoomFor pc = .ok (ins, len) ∧ qok pc ins len = true := by
  by_cases hb : pc < 18
  · exact qwl_b qd_X9_hasRoomFor_0 hb h
  · exfalso; unfold qc_X9_hasRoomFor at h; rw [qblt_f hb] at h; cases h
theorem qd_X9_append_0 : (qwl qc_X9_append cX9_append (cX9_append).data.toList 0 && Nat.ble 51 (cX9_append).data.toList.length) = true := by decide +kernel
theorem qd_X9_append {pc : Nat} {ins : Instr} {len : Nat} (h : qc_X9_append pc = some (ins, len)) : decode cX9_append pc = .ok (ins, len) ∧ qok pc ins len = true := by
  by_cases hb : pc < 51
  · exact qwl_b qd_X9_append_0 hb h
  · exfalso; unfold qc_X9_append at h; rw [qblt_f hb] at h; cases h
theorem qd_X9_cutTo_0 : (qwl qc_X9_cutTo cX9_cutTo (cX9_cutTo).data.toList 0 && Nat.ble 21 (cX9_cutTo).data.toList.length) = true := by decide +kernel
theorem qd_X9_cutTo {pc : Nat} {ins : Instr} {len : Nat} (h : qc_X9_cutTo pc = some (ins, len)) : decode cX9_cutTo pc = .ok (ins, len) ∧ qok pc ins len = true := by
  by_cases hb : pc < 21
  · exact qwl_b qd_X9_cutTo_0 hb h
  · exfalso; unfold qc_X9_cutTo at h; rw [qblt_f hb] at h; cases h
theorem qd_X9_forgetFault_0 : (qwl qc_X9_forgetFault cX9_forgetFault (cX9_forgetFault).data.toList 0 && Nat.ble 11 (cX9_forgetFault).data.toList.length) = true := by decide +kernel
theorem qd_X9_forgetFault {pc : Nat} {ins : Instr} {len : Nat} (h : qc_X9_forgetFault pc = some (ins, len)) : decode cX9_forgetFault pc = .ok (ins, len) ∧ qok pc ins len = true := by
  by_cases hb : pc < 11
  · exact qwl_b qd_X9_forgetFault_0 hb h
  · exfalso; unfold qc_X9_forgetFault at h; rw [qblt_f hb] at h; cases h
theorem qd_X9_faultOf_0 : (qwl qc_X9_faultOf cX9_faultOf (cX9_faultOf).data.toList 0 && Nat.ble 25 (cX9_faultOf).data.toList.length) = true := by decide +kernel
theorem qd_X9_faultOf {pc : Nat} {ins : Instr} {len : Nat} (h : qc_X9_faultOf pc = some (ins, len)) : decode cX9_faultOf pc = .ok (ins, len) ∧ qok pc ins len = true := by
  by_cases hb : pc < 25
  · exact qwl_b qd_X9_faultOf_0 hb h
  · exfalso; unfold qc_X9_faultOf at h; rw [qblt_f hb] at h; cases h
theorem qd_X9_readTokens_0 : (qwl qc_X9_readTokens cX9_readTokens (cX9_readTokens).data.toList 0 && Nat.ble 56 (cX9_readTokens).data.toList.length) = true := by decide +kernel
theorem qd_X9_readTokens {pc : Nat} {ins : Instr} {len : Nat} (h : qc_X9_readTokens pc = some (ins, len)) : decode cX9_readTokens pc = .ok (ins, len) ∧ qok pc ins len = true := by
  by_cases hb : pc < 56
  · exact qwl_b qd_X9_readTokens_0 hb h
  · exfalso; unfold qc_X9_readTokens at h; rw [qblt_f hb] at h; cases h
theorem qd_X9_readToken_0 : (qwl qc_X9_readToken cX9_readToken (cX9_readToken).data.toList 0 && Nat.ble 119 (cX9_readToken).data.toList.length) = true := by decide +kernel
theorem qd_X9_readToken {pc : Nat} {ins : Instr} {len : Nat} (h : qc_X9_readToken pc = some (ins, len)) : decode cX9_readToken pc = .ok (ins, len) ∧ qok pc ins len = true := by
  by_cases hb : pc < 119
  · exact qwl_b qd_X9_readToken_0 hb h
  · exfalso; unfold qc_X9_readToken at h; rw [qblt_f hb] at h; cases h
theorem qd_X9_signAt_0 : (qwl qc_X9_signAt cX9_signAt (cX9_signAt).data.toList 0 && Nat.ble 27 (cX9_signAt).data.toList.length) = true := by decide +kernel
theorem qd_X9_signAt {pc : Nat} {ins : Instr} {len : Nat} (h : qc_X9_signAt pc = some (ins, len)) : decode cX9_signAt pc = .ok (ins, len) ∧ qok pc ins len = true := by
  by_cases hb : pc < 27
  · exact qwl_b qd_X9_signAt_0 hb h
  · exfalso; unfold qc_X9_signAt at h; rw [qblt_f hb] at h; cases h
theorem qd_X9_isLetter_0 : (qwl qc_X9_isLetter cX9_isLetter (cX9_isLetter).data.toList 0 && Nat.ble 30 (cX9_isLetter).data.toList.length) = true := by decide +kernel
theorem qd_X9_isLetter {pc : Nat} {ins : Instr} {len : Nat} (h : qc_X9_isLetter pc = some (ins, len)) : decode cX9_isLetter pc = .ok (ins, len) ∧ qok pc ins len = true := by
  by_cases hb : pc < 30
  · exact qwl_b qd_X9_isLetter_0 hb h
  · exfalso; unfold qc_X9_isLetter at h; rw [qblt_f hb] at h; cases h
theorem qd_X9_isDigit_0 : (qwl qc_X9_isDigit cX9_isDigit (cX9_isDigit).data.toList 0 && Nat.ble 18 (cX9_isDigit).data.toList.length) = true := by decide +kernel
theorem qd_X9_isDigit {pc : Nat} {ins : Instr} {len : Nat} (h : qc_X9_isDigit pc = some (ins, len)) : decode cX9_isDigit pc = .ok (ins, len) ∧ qok pc ins len = true := by
  by_cases hb : pc < 18
  · exact qwl_b qd_X9_isDigit_0 hb h
  · exfalso; unfold qc_X9_isDigit at h; rw [qblt_f hb] at h; cases h
theorem qd_X9_letterEnd_0 : (qwl qc_X9_letterEnd cX9_letterEnd (cX9_letterEnd).data.toList 0 && Nat.ble 34 (cX9_letterEnd).data.toList.length) = true := by decide +kernel
theorem qd_X9_letterEnd {pc : Nat} {ins : Instr} {len : Nat} (h : qc_X9_letterEnd pc = some (ins, len)) : decode cX9_letterEnd pc = .ok (ins, len) ∧ qok pc ins len = true := by
  by_cases hb : pc < 34
  · exact qwl_b qd_X9_letterEnd_0 hb h
  · exfalso; unfold qc_X9_letterEnd at h; rw [qblt_f hb] at h; cases h
theorem qd_X9_digitEnd_0 : (qwl qc_X9_digitEnd cX9_digitEnd (cX9_digitEnd).data.toList 0 && Nat.ble 34 (cX9_digitEnd).data.toList.length) = true := by decide +kernel
theorem qd_X9_digitEnd {pc : Nat} {ins : Instr} {len : Nat} (h : qc_X9_digitEnd pc = some (ins, len)) : decode cX9_digitEnd pc = .ok (ins, len) ∧ qok pc ins len = true := by
  by_cases hb : pc < 34
  · exact qwl_b qd_X9_digitEnd_0 hb h
  · exfalso; unfold qc_X9_digitEnd at h; rw [qblt_f hb] at h; cases h
theorem qd_X9_numberCode_0 : (qwl qc_X9_numberCode cX9_numberCode (cX9_numberCode).data.toList 0 && Nat.ble 43 (cX9_numberCode).data.toList.length) = true := by decide +kernel
theorem qd_X9_numberCode {pc : Nat} {ins : Instr} {len : Nat} (h : qc_X9_numberCode pc = some (ins, len)) : decode cX9_numberCode pc = .ok (ins, len) ∧ qok pc ins len = true := by
  by_cases hb : pc < 43
  · exact qwl_b qd_X9_numberCode_0 hb h
  · exfalso; unfold qc_X9_numberCode at h; rw [qblt_f hb] at h; cases h
theorem qd_X9_wordCode_0 : (qwl qc_X9_wordCode cX9_wordCode (cX9_wordCode).data.toList 0 && Nat.ble 86 (cX9_wordCode).data.toList.length) = true := by decide +kernel
theorem qd_X9_wordCode {pc : Nat} {ins : Instr} {len : Nat} (h : qc_X9_wordCode pc = some (ins, len)) : decode cX9_wordCode pc = .ok (ins, len) ∧ qok pc ins len = true := by
  by_cases hb : pc < 86
  · exact qwl_b qd_X9_wordCode_0 hb h
  · exfalso; unfold qc_X9_wordCode at h; rw [qblt_f hb] at h; cases h
theorem qd_X9_isSame_0 : (qwl qc_X9_isSame cX9_isSame (cX9_isSame).data.toList 0 && Nat.ble 67 (cX9_isSame).data.toList.length) = true := by decide +kernel
theorem qd_X9_isSame {pc : Nat} {ins : Instr} {len : Nat} (h : qc_X9_isSame pc = some (ins, len)) : decode cX9_isSame pc = .ok (ins, len) ∧ qok pc ins len = true := by
  by_cases hb : pc < 67
  · exact qwl_b qd_X9_isSame_0 hb h
  · exfalso; unfold qc_X9_isSame at h; rw [qblt_f hb] at h; cases h
theorem qd_X9_addToken_0 : (qwl qc_X9_addToken cX9_addToken (cX9_addToken).data.toList 0 && Nat.ble 41 (cX9_addToken).data.toList.length) = true := by decide +kernel
theorem qd_X9_addToken {pc : Nat} {ins : Instr} {len : Nat} (h : qc_X9_addToken pc = some (ins, len)) : decode cX9_addToken pc = .ok (ins, len) ∧ qok pc ins len = true := by
  by_cases hb : pc < 41
  · exact qwl_b qd_X9_addToken_0 hb h
  · exfalso; unfold qc_X9_addToken at h; rw [qblt_f hb] at h; cases h
theorem qd_X9_code_0 : (qwl qc_X9_code cX9_code (cX9_code).data.toList 0 && Nat.ble 33 (cX9_code).data.toList.length) = true := by decide +kernel
theorem qd_X9_code {pc : Nat} {ins : Instr} {len : Nat} (h : qc_X9_code pc = some (ins, len)) : decode cX9_code pc = .ok (ins, len) ∧ qok pc ins len = true := by
  by_cases hb : pc < 33
  · exact qwl_b qd_X9_code_0 hb h
  · exfalso; unfold qc_X9_code at h; rw [qblt_f hb] at h; cases h
theorem qd_X9_tokenNumber_0 : (qwl qc_X9_tokenNumber cX9_tokenNumber (cX9_tokenNumber).data.toList 0 && Nat.ble 5 (cX9_tokenNumber).data.toList.length) = true := by decide +kernel
theorem qd_X9_tokenNumber {pc : Nat} {ins : Instr} {len : Nat} (h : qc_X9_tokenNumber pc = some (ins, len)) : decode cX9_tokenNumber pc = .ok (ins, len) ∧ qok pc ins len = true := by
  by_cases hb : pc < 5
  · exact qwl_b qd_X9_tokenNumber_0 hb h
  · exfalso; unfold qc_X9_tokenNumber at h; rw [qblt_f hb] at h; cases h
theorem qd_X9_copyCodes_0 : (qwl qc_X9_copyCodes cX9_copyCodes (cX9_copyCodes).data.toList 0 && Nat.ble 20 (cX9_copyCodes).data.toList.length) = true := by decide +kernel
theorem qd_X9_copyCodes {pc : Nat} {ins : Instr} {len : Nat} (h : qc_X9_copyCodes pc = some (ins, len)) : decode cX9_copyCodes pc = .ok (ins, len) ∧ qok pc ins len = true := by
  by_cases hb : pc < 20
  · exact qwl_b qd_X9_copyCodes_0 hb h
  · exfalso; unfold qc_X9_copyCodes at h; rw [qblt_f hb] at h; cases h
theorem qd_X9_word_0 : (qwl qc_X9_word cX9_word (cX9_word).data.toList 0 && Nat.ble 29 (cX9_word).data.toList.length) = true := by decide +kernel
theorem qd_X9_word {pc : Nat} {ins : Instr} {len : Nat} (h : qc_X9_word pc = some (ins, len)) : decode cX9_word pc = .ok (ins, len) ∧ qok pc ins len = true := by
  by_cases hb : pc < 29
  · exact qwl_b qd_X9_word_0 hb h
  · exfalso; unfold qc_X9_word at h; rw [qblt_f hb] at h; cases h
theorem qd_X9_next_0 : (qwl qc_X9_next cX9_next (cX9_next).data.toList 0 && Nat.ble 11 (cX9_next).data.toList.length) = true := by decide +kernel
theorem qd_X9_next {pc : Nat} {ins : Instr} {len : Nat} (h : qc_X9_next pc = some (ins, len)) : decode cX9_next pc = .ok (ins, len) ∧ qok pc ins len = true := by
  by_cases hb : pc < 11
  · exact qwl_b qd_X9_next_0 hb h
  · exfalso; unfold qc_X9_next at h; rw [qblt_f hb] at h; cases h
theorem qd_X9_takes_0 : (qwl qc_X9_takes cX9_takes (cX9_takes).data.toList 0 && Nat.ble 16 (cX9_takes).data.toList.length) = true := by decide +kernel
theorem qd_X9_takes {pc : Nat} {ins : Instr} {len : Nat} (h : qc_X9_takes pc = some (ins, len)) : decode cX9_takes pc = .ok (ins, len) ∧ qok pc ins len = true := by
  by_cases hb : pc < 16
  · exact qwl_b qd_X9_takes_0 hb h
  · exfalso; unfold qc_X9_takes at h; rw [qblt_f hb] at h; cases h
theorem qd_X9_needs_0 : (qwl qc_X9_needs cX9_needs (cX9_needs).data.toList 0 && Nat.ble 22 (cX9_needs).data.toList.length) = true := by decide +kernel
theorem qd_X9_needs {pc : Nat} {ins : Instr} {len : Nat} (h : qc_X9_needs pc = some (ins, len)) : decode cX9_needs pc = .ok (ins, len) ∧ qok pc ins len = true := by
  by_cases hb : pc < 22
  · exact qwl_b qd_X9_needs_0 hb h
  · exfalso; unfold qc_X9_needs at h; rw [qblt_f hb] at h; cases h
theorem qd_X9_needsNumber_0 : (qwl qc_X9_needsNumber cX9_needsNumber (cX9_needsNumber).data.toList 0 && Nat.ble 44 (cX9_needsNumber).data.toList.length) = true := by decide +kernel
theorem qd_X9_needsNumber {pc : Nat} {ins : Instr} {len : Nat} (h : qc_X9_needsNumber pc = some (ins, len)) : decode cX9_needsNumber pc = .ok (ins, len) ∧ qok pc ins len = true := by
  by_cases hb : pc < 44
  · exact qwl_b qd_X9_needsNumber_0 hb h
  · exfalso; unfold qc_X9_needsNumber at h; rw [qblt_f hb] at h; cases h
theorem qd_X9_fail_0 : (qwl qc_X9_fail cX9_fail (cX9_fail).data.toList 0 && Nat.ble 45 (cX9_fail).data.toList.length) = true := by decide +kernel
theorem qd_X9_fail {pc : Nat} {ins : Instr} {len : Nat} (h : qc_X9_fail pc = some (ins, len)) : decode cX9_fail pc = .ok (ins, len) ∧ qok pc ins len = true := by
  by_cases hb : pc < 45
  · exact qwl_b qd_X9_fail_0 hb h
  · exfalso; unfold qc_X9_fail at h; rw [qblt_f hb] at h; cases h
theorem qd_X10_init_0 : (qwl qc_X10_init cX10_init (cX10_init).data.toList 0 && Nat.ble 31 (cX10_init).data.toList.length) = true := by decide +kernel
theorem qd_X10_init {pc : Nat} {ins : Instr} {len : Nat} (h : qc_X10_init pc = some (ins, len)) : decode cX10_init pc = .ok (ins, len) ∧ qok pc ins len = true := by
  by_cases hb : pc < 31
  · exact qwl_b qd_X10_init_0 hb h
  · exfalso; unfold qc_X10_init at h; rw [qblt_f hb] at h; cases h
theorem qd_X10_add_0 : (qwl qc_X10_add cX10_add (cX10_add).data.toList 0 && Nat.ble 68 (cX10_add).data.toList.length) = true := by decide +kernel
theorem qd_X10_add {pc : Nat} {ins : Instr} {len : Nat} (h : qc_X10_add pc = some (ins, len)) : decode cX10_add pc = .ok (ins, len) ∧ qok pc ins len = true := by
  by_cases hb : pc < 68
  · exact qwl_b qd_X10_add_0 hb h
  · exfalso; unfold qc_X10_add at h; rw [qblt_f hb] at h; cases h
theorem qd_X10_putTruth_0 : (qwl qc_X10_putTruth cX10_putTruth (cX10_putTruth).data.toList 0 && Nat.ble 19 (cX10_putTruth).data.toList.length) = true := by decide +kernel
theorem qd_X10_putTruth {pc : Nat} {ins : Instr} {len : Nat} (h : qc_X10_putTruth pc = some (ins, len)) : decode cX10_putTruth pc = .ok (ins, len) ∧ qok pc ins len = true := by
  by_cases hb : pc < 19
  · exact qwl_b qd_X10_putTruth_0 hb h
  · exfalso; unfold qc_X10_putTruth at h; rw [qblt_f hb] at h; cases h
theorem qd_X10_firstWith_0 : (qwl qc_X10_firstWith cX10_firstWith (cX10_firstWith).data.toList 0 && Nat.ble 67 (cX10_firstWith).data.toList.length) = true := by decide +kernel
theorem qd_X10_firstWith {pc : Nat} {ins : Instr} {len : Nat} (h : qc_X10_firstWith pc = some (ins, len)) : decode cX10_firstWith pc = .ok (ins, len) ∧ qok pc ins len = true := by
  by_cases hb : pc < 67
  · exact qwl_b qd_X10_firstWith_0 hb h
  · exfalso; unfold qc_X10_firstWith at h; rw [qblt_f hb] at h; cases h
theorem qd_X10_factOf_0 : (qwl qc_X10_factOf cX10_factOf (cX10_factOf).data.toList 0 && Nat.ble 98 (cX10_factOf).data.toList.length) = true := by decide +kernel
theorem qd_X10_factOf {pc : Nat} {ins : Instr} {len : Nat} (h : qc_X10_factOf pc = some (ins, len)) : decode cX10_factOf pc = .ok (ins, len) ∧ qok pc ins len = true := by
  by_cases hb : pc < 98
  · exact qwl_b qd_X10_factOf_0 hb h
  · exfalso; unfold qc_X10_factOf at h; rw [qblt_f hb] at h; cases h
theorem qd_X10_isWriter_0 : (qwl qc_X10_isWriter cX10_isWriter (cX10_isWriter).data.toList 0 && Nat.ble 24 (cX10_isWriter).data.toList.length) = true := by decide +kernel
theorem qd_X10_isWriter {pc : Nat} {ins : Instr} {len : Nat} (h : qc_X10_isWriter pc = some (ins, len)) : decode cX10_isWriter pc = .ok (ins, len) ∧ qok pc ins len = true := by
  by_cases hb : pc < 24
  · exact qwl_b qd_X10_isWriter_0 hb h
  · exfalso; unfold qc_X10_isWriter at h; rw [qblt_f hb] at h; cases h
theorem qd_X10_wroteBefore_0 : (qwl qc_X10_wroteBefore cX10_wroteBefore (cX10_wroteBefore).data.toList 0 && Nat.ble 59 (cX10_wroteBefore).data.toList.length) = true := by decide +kernel
theorem qd_X10_wroteBefore {pc : Nat} {ins : Instr} {len : Nat} (h : qc_X10_wroteBefore pc = some (ins, len)) : decode cX10_wroteBefore pc = .ok (ins, len) ∧ qok pc ins len = true := by
  by_cases hb : pc < 59
  · exact qwl_b qd_X10_wroteBefore_0 hb h
  · exfalso; unfold qc_X10_wroteBefore at h; rw [qblt_f hb] at h; cases h
theorem qd_X10_copiedFrom_0 : (qwl qc_X10_copiedFrom cX10_copiedFrom (cX10_copiedFrom).data.toList 0 && Nat.ble 122 (cX10_copiedFrom).data.toList.length) = true := by decide +kernel
theorem qd_X10_copiedFrom {pc : Nat} {ins : Instr} {len : Nat} (h : qc_X10_copiedFrom pc = some (ins, len)) : decode cX10_copiedFrom pc = .ok (ins, len) ∧ qok pc ins len = true := by
  by_cases hb : pc < 122
  · exact qwl_b qd_X10_copiedFrom_0 hb h
  · exfalso; unfold qc_X10_copiedFrom at h; rw [qblt_f hb] at h; cases h
theorem qd_X10_walkLine_0 : (qwl qc_X10_walkLine cX10_walkLine (cX10_walkLine).data.toList 0 && Nat.ble 54 (cX10_walkLine).data.toList.length) = true := by decide +kernel
theorem qd_X10_walkLine {pc : Nat} {ins : Instr} {len : Nat} (h : qc_X10_walkLine pc = some (ins, len)) : decode cX10_walkLine pc = .ok (ins, len) ∧ qok pc ins len = true := by
  by_cases hb : pc < 54
  · exact qwl_b qd_X10_walkLine_0 hb h
  · exfalso; unfold qc_X10_walkLine at h; rw [qblt_f hb] at h; cases h
theorem qd_X11_init_0 : (qwl qc_X11_init cX11_init (cX11_init).data.toList 0 && Nat.ble 161 (cX11_init).data.toList.length) = true := by decide +kernel
theorem qd_X11_init {pc : Nat} {ins : Instr} {len : Nat} (h : qc_X11_init pc = some (ins, len)) : decode cX11_init pc = .ok (ins, len) ∧ qok pc ins len = true := by
  by_cases hb : pc < 161
  · exact qwl_b qd_X11_init_0 hb h
  · exfalso; unfold qc_X11_init at h; rw [qblt_f hb] at h; cases h
theorem qd_X11_works_0 : (qwl qc_X11_works cX11_works (cX11_works).data.toList 0 && Nat.ble 27 (cX11_works).data.toList.length) = true := by decide +kernel
theorem qd_X11_works {pc : Nat} {ins : Instr} {len : Nat} (h : qc_X11_works pc = some (ins, len)) : decode cX11_works pc = .ok (ins, len) ∧ qok pc ins len = true := by
  by_cases hb : pc < 27
  · exact qwl_b qd_X11_works_0 hb h
  · exfalso; unfold qc_X11_works at h; rw [qblt_f hb] at h; cases h
theorem qd_X11_wall_0 : (qwl qc_X11_wall cX11_wall (cX11_wall).data.toList 0 && Nat.ble 29 (cX11_wall).data.toList.length) = true := by decide +kernel
theorem qd_X11_wall {pc : Nat} {ins : Instr} {len : Nat} (h : qc_X11_wall pc = some (ins, len)) : decode cX11_wall pc = .ok (ins, len) ∧ qok pc ins len = true := by
  by_cases hb : pc < 29
  · exact qwl_b qd_X11_wall_0 hb h
  · exfalso; unfold qc_X11_wall at h; rw [qblt_f hb] at h; cases h
theorem qd_X11_door_0 : (qwl qc_X11_door cX11_door (cX11_door).data.toList 0 && Nat.ble 31 (cX11_door).data.toList.length) = true := by decide +kernel
theorem qd_X11_door {pc : Nat} {ins : Instr} {len : Nat} (h : qc_X11_door pc = some (ins, len)) : decode cX11_door pc = .ok (ins, len) ∧ qok pc ins len = true := by
  by_cases hb : pc < 31
  · exact qwl_b qd_X11_door_0 hb h
  · exfalso; unfold qc_X11_door at h; rw [qblt_f hb] at h; cases h
theorem qd_X11_feed_0 : (qwl qc_X11_feed cX11_feed (cX11_feed).data.toList 0 && Nat.ble 61 (cX11_feed).data.toList.length) = true := by decide +kernel
theorem qd_X11_feed {pc : Nat} {ins : Instr} {len : Nat} (h : qc_X11_feed pc = some (ins, len)) : decode cX11_feed pc = .ok (ins, len) ∧ qok pc ins len = true := by
  by_cases hb : pc < 61
  · exact qwl_b qd_X11_feed_0 hb h
  · exfalso; unfold qc_X11_feed at h; rw [qblt_f hb] at h; cases h
theorem qd_X11_end_0 : (qwl qc_X11_end cX11_end (cX11_end).data.toList 0 && Nat.ble 9 (cX11_end).data.toList.length) = true := by decide +kernel
theorem qd_X11_end {pc : Nat} {ins : Instr} {len : Nat} (h : qc_X11_end pc = some (ins, len)) : decode cX11_end pc = .ok (ins, len) ∧ qok pc ins len = true := by
  by_cases hb : pc < 9
  · exact qwl_b qd_X11_end_0 hb h
  · exfalso; unfold qc_X11_end at h; rw [qblt_f hb] at h; cases h
theorem qd_X11_text_0 : (qwl qc_X11_text cX11_text (cX11_text).data.toList 0 && Nat.ble 53 (cX11_text).data.toList.length) = true := by decide +kernel
theorem qd_X11_text {pc : Nat} {ins : Instr} {len : Nat} (h : qc_X11_text pc = some (ins, len)) : decode cX11_text pc = .ok (ins, len) ∧ qok pc ins len = true := by
  by_cases hb : pc < 53
  · exact qwl_b qd_X11_text_0 hb h
  · exfalso; unfold qc_X11_text at h; rw [qblt_f hb] at h; cases h
theorem qd_X11_fault_0 : (qwl qc_X11_fault cX11_fault (cX11_fault).data.toList 0 && Nat.ble 9 (cX11_fault).data.toList.length) = true := by decide +kernel
theorem qd_X11_fault {pc : Nat} {ins : Instr} {len : Nat} (h : qc_X11_fault pc = some (ins, len)) : decode cX11_fault pc = .ok (ins, len) ∧ qok pc ins len = true := by
  by_cases hb : pc < 9
  · exact qwl_b qd_X11_fault_0 hb h
  · exfalso; unfold qc_X11_fault at h; rw [qblt_f hb] at h; cases h
theorem qd_X11_poses_0 : (qwl qc_X11_poses cX11_poses (cX11_poses).data.toList 0 && Nat.ble 31 (cX11_poses).data.toList.length) = true := by decide +kernel
theorem qd_X11_poses {pc : Nat} {ins : Instr} {len : Nat} (h : qc_X11_poses pc = some (ins, len)) : decode cX11_poses pc = .ok (ins, len) ∧ qok pc ins len = true := by
  by_cases hb : pc < 31
  · exact qwl_b qd_X11_poses_0 hb h
  · exfalso; unfold qc_X11_poses at h; rw [qblt_f hb] at h; cases h
theorem qd_X11_seen_0 : (qwl qc_X11_seen cX11_seen (cX11_seen).data.toList 0 && Nat.ble 42 (cX11_seen).data.toList.length) = true := by decide +kernel
theorem qd_X11_seen {pc : Nat} {ins : Instr} {len : Nat} (h : qc_X11_seen pc = some (ins, len)) : decode cX11_seen pc = .ok (ins, len) ∧ qok pc ins len = true := by
  by_cases hb : pc < 42
  · exact qwl_b qd_X11_seen_0 hb h
  · exfalso; unfold qc_X11_seen at h; rw [qblt_f hb] at h; cases h
theorem qd_X11_run_0 : (qwl qc_X11_run cX11_run (cX11_run).data.toList 0 && Nat.ble 42 (cX11_run).data.toList.length) = true := by decide +kernel
theorem qd_X11_run {pc : Nat} {ins : Instr} {len : Nat} (h : qc_X11_run pc = some (ins, len)) : decode cX11_run pc = .ok (ins, len) ∧ qok pc ins len = true := by
  by_cases hb : pc < 42
  · exact qwl_b qd_X11_run_0 hb h
  · exfalso; unfold qc_X11_run at h; rw [qblt_f hb] at h; cases h
theorem qd_X11_hide_0 : (qwl qc_X11_hide cX11_hide (cX11_hide).data.toList 0 && Nat.ble 68 (cX11_hide).data.toList.length) = true := by decide +kernel
theorem qd_X11_hide {pc : Nat} {ins : Instr} {len : Nat} (h : qc_X11_hide pc = some (ins, len)) : decode cX11_hide pc = .ok (ins, len) ∧ qok pc ins len = true := by
  by_cases hb : pc < 68
  · exact qwl_b qd_X11_hide_0 hb h
  · exfalso; unfold qc_X11_hide at h; rw [qblt_f hb] at h; cases h
theorem qd_X11_way_0 : (qwl qc_X11_way cX11_way (cX11_way).data.toList 0 && Nat.ble 61 (cX11_way).data.toList.length) = true := by decide +kernel
theorem qd_X11_way {pc : Nat} {ins : Instr} {len : Nat} (h : qc_X11_way pc = some (ins, len)) : decode cX11_way pc = .ok (ins, len) ∧ qok pc ins len = true := by
  by_cases hb : pc < 61
  · exact qwl_b qd_X11_way_0 hb h
  · exfalso; unfold qc_X11_way at h; rw [qblt_f hb] at h; cases h
theorem qd_X11_order_0 : (qwl qc_X11_order cX11_order (cX11_order).data.toList 0 && Nat.ble 71 (cX11_order).data.toList.length) = true := by decide +kernel
theorem qd_X11_order {pc : Nat} {ins : Instr} {len : Nat} (h : qc_X11_order pc = some (ins, len)) : decode cX11_order pc = .ok (ins, len) ∧ qok pc ins len = true := by
  by_cases hb : pc < 71
  · exact qwl_b qd_X11_order_0 hb h
  · exfalso; unfold qc_X11_order at h; rw [qblt_f hb] at h; cases h
theorem qd_X11_proof_0 : (qwl qc_X11_proof cX11_proof (cX11_proof).data.toList 0 && Nat.ble 45 (cX11_proof).data.toList.length) = true := by decide +kernel
theorem qd_X11_proof {pc : Nat} {ins : Instr} {len : Nat} (h : qc_X11_proof pc = some (ins, len)) : decode cX11_proof pc = .ok (ins, len) ∧ qok pc ins len = true := by
  by_cases hb : pc < 45
  · exact qwl_b qd_X11_proof_0 hb h
  · exfalso; unfold qc_X11_proof at h; rw [qblt_f hb] at h; cases h
theorem qd_X11_reason_0 : (qwl qc_X11_reason cX11_reason (cX11_reason).data.toList 0 && Nat.ble 17 (cX11_reason).data.toList.length) = true := by decide +kernel
theorem qd_X11_reason {pc : Nat} {ins : Instr} {len : Nat} (h : qc_X11_reason pc = some (ins, len)) : decode cX11_reason pc = .ok (ins, len) ∧ qok pc ins len = true := by
  by_cases hb : pc < 17
  · exact qwl_b qd_X11_reason_0 hb h
  · exfalso; unfold qc_X11_reason at h; rw [qblt_f hb] at h; cases h
theorem qd_X11_pamphlet_0 : (qwl qc_X11_pamphlet cX11_pamphlet (cX11_pamphlet).data.toList 0 && Nat.ble 79 (cX11_pamphlet).data.toList.length) = true := by decide +kernel
theorem qd_X11_pamphlet {pc : Nat} {ins : Instr} {len : Nat} (h : qc_X11_pamphlet pc = some (ins, len)) : decode cX11_pamphlet pc = .ok (ins, len) ∧ qok pc ins len = true := by
  by_cases hb : pc < 79
  · exact qwl_b qd_X11_pamphlet_0 hb h
  · exfalso; unfold qc_X11_pamphlet at h; rw [qblt_f hb] at h; cases h
theorem qd_X11_air_0 : (qwl qc_X11_air cX11_air (cX11_air).data.toList 0 && Nat.ble 55 (cX11_air).data.toList.length) = true := by decide +kernel
theorem qd_X11_air {pc : Nat} {ins : Instr} {len : Nat} (h : qc_X11_air pc = some (ins, len)) : decode cX11_air pc = .ok (ins, len) ∧ qok pc ins len = true := by
  by_cases hb : pc < 55
  · exact qwl_b qd_X11_air_0 hb h
  · exfalso; unfold qc_X11_air at h; rw [qblt_f hb] at h; cases h
theorem qd_X11_piece_0 : (qwl qc_X11_piece cX11_piece (cX11_piece).data.toList 0 && Nat.ble 10 (cX11_piece).data.toList.length) = true := by decide +kernel
theorem qd_X11_piece {pc : Nat} {ins : Instr} {len : Nat} (h : qc_X11_piece pc = some (ins, len)) : decode cX11_piece pc = .ok (ins, len) ∧ qok pc ins len = true := by
  by_cases hb : pc < 10
  · exact qwl_b qd_X11_piece_0 hb h
  · exfalso; unfold qc_X11_piece at h; rw [qblt_f hb] at h; cases h
theorem qd_X11_stick_0 : (qwl qc_X11_stick cX11_stick (cX11_stick).data.toList 0 && Nat.ble 10 (cX11_stick).data.toList.length) = true := by decide +kernel
theorem qd_X11_stick {pc : Nat} {ins : Instr} {len : Nat} (h : qc_X11_stick pc = some (ins, len)) : decode cX11_stick pc = .ok (ins, len) ∧ qok pc ins len = true := by
  by_cases hb : pc < 10
  · exact qwl_b qd_X11_stick_0 hb h
  · exfalso; unfold qc_X11_stick at h; rw [qblt_f hb] at h; cases h
theorem qd_X11_move_0 : (qwl qc_X11_move cX11_move (cX11_move).data.toList 0 && Nat.ble 11 (cX11_move).data.toList.length) = true := by decide +kernel
theorem qd_X11_move {pc : Nat} {ins : Instr} {len : Nat} (h : qc_X11_move pc = some (ins, len)) : decode cX11_move pc = .ok (ins, len) ∧ qok pc ins len = true := by
  by_cases hb : pc < 11
  · exact qwl_b qd_X11_move_0 hb h
  · exfalso; unfold qc_X11_move at h; rw [qblt_f hb] at h; cases h
theorem qd_X11_board_0 : (qwl qc_X11_board cX11_board (cX11_board).data.toList 0 && Nat.ble 10 (cX11_board).data.toList.length) = true := by decide +kernel
theorem qd_X11_board {pc : Nat} {ins : Instr} {len : Nat} (h : qc_X11_board pc = some (ins, len)) : decode cX11_board pc = .ok (ins, len) ∧ qok pc ins len = true := by
  by_cases hb : pc < 10
  · exact qwl_b qd_X11_board_0 hb h
  · exfalso; unfold qc_X11_board at h; rw [qblt_f hb] at h; cases h
theorem qd_X11_master_0 : (qwl qc_X11_master cX11_master (cX11_master).data.toList 0 && Nat.ble 23 (cX11_master).data.toList.length) = true := by decide +kernel
theorem qd_X11_master {pc : Nat} {ins : Instr} {len : Nat} (h : qc_X11_master pc = some (ins, len)) : decode cX11_master pc = .ok (ins, len) ∧ qok pc ins len = true := by
  by_cases hb : pc < 23
  · exact qwl_b qd_X11_master_0 hb h
  · exfalso; unfold qc_X11_master at h; rw [qblt_f hb] at h; cases h
theorem qd_X11_was_0 : (qwl qc_X11_was cX11_was (cX11_was).data.toList 0 && Nat.ble 11 (cX11_was).data.toList.length) = true := by decide +kernel
theorem qd_X11_was {pc : Nat} {ins : Instr} {len : Nat} (h : qc_X11_was pc = some (ins, len)) : decode cX11_was pc = .ok (ins, len) ∧ qok pc ins len = true := by
  by_cases hb : pc < 11
  · exact qwl_b qd_X11_was_0 hb h
  · exfalso; unfold qc_X11_was at h; rw [qblt_f hb] at h; cases h
theorem qd_X11_habit_0 : (qwl qc_X11_habit cX11_habit (cX11_habit).data.toList 0 && Nat.ble 11 (cX11_habit).data.toList.length) = true := by decide +kernel
theorem qd_X11_habit {pc : Nat} {ins : Instr} {len : Nat} (h : qc_X11_habit pc = some (ins, len)) : decode cX11_habit pc = .ok (ins, len) ∧ qok pc ins len = true := by
  by_cases hb : pc < 11
  · exact qwl_b qd_X11_habit_0 hb h
  · exfalso; unfold qc_X11_habit at h; rw [qblt_f hb] at h; cases h
theorem qd_X11_night_0 : (qwl qc_X11_night cX11_night (cX11_night).data.toList 0 && Nat.ble 15 (cX11_night).data.toList.length) = true := by decide +kernel
theorem qd_X11_night {pc : Nat} {ins : Instr} {len : Nat} (h : qc_X11_night pc = some (ins, len)) : decode cX11_night pc = .ok (ins, len) ∧ qok pc ins len = true := by
  by_cases hb : pc < 15
  · exact qwl_b qd_X11_night_0 hb h
  · exfalso; unfold qc_X11_night at h; rw [qblt_f hb] at h; cases h
theorem qd_X11_who_0 : (qwl qc_X11_who cX11_who (cX11_who).data.toList 0 && Nat.ble 11 (cX11_who).data.toList.length) = true := by decide +kernel
theorem qd_X11_who {pc : Nat} {ins : Instr} {len : Nat} (h : qc_X11_who pc = some (ins, len)) : decode cX11_who pc = .ok (ins, len) ∧ qok pc ins len = true := by
  by_cases hb : pc < 11
  · exact qwl_b qd_X11_who_0 hb h
  · exfalso; unfold qc_X11_who at h; rw [qblt_f hb] at h; cases h
theorem qd_X11_all_0 : (qwl qc_X11_all cX11_all (cX11_all).data.toList 0 && Nat.ble 11 (cX11_all).data.toList.length) = true := by decide +kernel
theorem qd_X11_all {pc : Nat} {ins : Instr} {len : Nat} (h : qc_X11_all pc = some (ins, len)) : decode cX11_all pc = .ok (ins, len) ∧ qok pc ins len = true := by
  by_cases hb : pc < 11
  · exact qwl_b qd_X11_all_0 hb h
  · exfalso; unfold qc_X11_all at h; rw [qblt_f hb] at h; cases h
theorem qd_X11_cam_0 : (qwl qc_X11_cam cX11_cam (cX11_cam).data.toList 0 && Nat.ble 13 (cX11_cam).data.toList.length) = true := by decide +kernel
theorem qd_X11_cam {pc : Nat} {ins : Instr} {len : Nat} (h : qc_X11_cam pc = some (ins, len)) : decode cX11_cam pc = .ok (ins, len) ∧ qok pc ins len = true := by
  by_cases hb : pc < 13
  · exact qwl_b qd_X11_cam_0 hb h
  · exfalso; unfold qc_X11_cam at h; rw [qblt_f hb] at h; cases h
theorem qd_X11_game_0 : (qwl qc_X11_game cX11_game (cX11_game).data.toList 0 && Nat.ble 10 (cX11_game).data.toList.length) = true := by decide +kernel
theorem qd_X11_game {pc : Nat} {ins : Instr} {len : Nat} (h : qc_X11_game pc = some (ins, len)) : decode cX11_game pc = .ok (ins, len) ∧ qok pc ins len = true := by
  by_cases hb : pc < 10
  · exact qwl_b qd_X11_game_0 hb h
  · exfalso; unfold qc_X11_game at h; rw [qblt_f hb] at h; cases h
theorem qd_X11_alone_0 : (qwl qc_X11_alone cX11_alone (cX11_alone).data.toList 0 && Nat.ble 9 (cX11_alone).data.toList.length) = true := by decide +kernel
theorem qd_X11_alone {pc : Nat} {ins : Instr} {len : Nat} (h : qc_X11_alone pc = some (ins, len)) : decode cX11_alone pc = .ok (ins, len) ∧ qok pc ins len = true := by
  by_cases hb : pc < 9
  · exact qwl_b qd_X11_alone_0 hb h
  · exfalso; unfold qc_X11_alone at h; rw [qblt_f hb] at h; cases h
theorem qd_X11_writer_0 : (qwl qc_X11_writer cX11_writer (cX11_writer).data.toList 0 && Nat.ble 10 (cX11_writer).data.toList.length) = true := by decide +kernel
theorem qd_X11_writer {pc : Nat} {ins : Instr} {len : Nat} (h : qc_X11_writer pc = some (ins, len)) : decode cX11_writer pc = .ok (ins, len) ∧ qok pc ins len = true := by
  by_cases hb : pc < 10
  · exact qwl_b qd_X11_writer_0 hb h
  · exfalso; unfold qc_X11_writer at h; rw [qblt_f hb] at h; cases h
theorem qd_X11_truth_0 : (qwl qc_X11_truth cX11_truth (cX11_truth).data.toList 0 && Nat.ble 9 (cX11_truth).data.toList.length) = true := by decide +kernel
theorem qd_X11_truth {pc : Nat} {ins : Instr} {len : Nat} (h : qc_X11_truth pc = some (ins, len)) : decode cX11_truth pc = .ok (ins, len) ∧ qok pc ins len = true := by
  by_cases hb : pc < 9
  · exact qwl_b qd_X11_truth_0 hb h
  · exfalso; unfold qc_X11_truth at h; rw [qblt_f hb] at h; cases h
theorem qd_X11_first_0 : (qwl qc_X11_first cX11_first (cX11_first).data.toList 0 && Nat.ble 9 (cX11_first).data.toList.length) = true := by decide +kernel
theorem qd_X11_first {pc : Nat} {ins : Instr} {len : Nat} (h : qc_X11_first pc = some (ins, len)) : decode cX11_first pc = .ok (ins, len) ∧ qok pc ins len = true := by
  by_cases hb : pc < 9
  · exact qwl_b qd_X11_first_0 hb h
  · exfalso; unfold qc_X11_first at h; rw [qblt_f hb] at h; cases h
theorem qd_X11_story_0 : (qwl qc_X11_story cX11_story (cX11_story).data.toList 0 && Nat.ble 10 (cX11_story).data.toList.length) = true := by decide +kernel
theorem qd_X11_story {pc : Nat} {ins : Instr} {len : Nat} (h : qc_X11_story pc = some (ins, len)) : decode cX11_story pc = .ok (ins, len) ∧ qok pc ins len = true := by
  by_cases hb : pc < 10
  · exact qwl_b qd_X11_story_0 hb h
  · exfalso; unfold qc_X11_story at h; rw [qblt_f hb] at h; cases h
theorem qd_X11_isChest_0 : (qwl qc_X11_isChest cX11_isChest (cX11_isChest).data.toList 0 && Nat.ble 15 (cX11_isChest).data.toList.length) = true := by decide +kernel
theorem qd_X11_isChest {pc : Nat} {ins : Instr} {len : Nat} (h : qc_X11_isChest pc = some (ins, len)) : decode cX11_isChest pc = .ok (ins, len) ∧ qok pc ins len = true := by
  by_cases hb : pc < 15
  · exact qwl_b qd_X11_isChest_0 hb h
  · exfalso; unfold qc_X11_isChest at h; rw [qblt_f hb] at h; cases h
theorem qd_X11_isShow_0 : (qwl qc_X11_isShow cX11_isShow (cX11_isShow).data.toList 0 && Nat.ble 15 (cX11_isShow).data.toList.length) = true := by decide +kernel
theorem qd_X11_isShow {pc : Nat} {ins : Instr} {len : Nat} (h : qc_X11_isShow pc = some (ins, len)) : decode cX11_isShow pc = .ok (ins, len) ∧ qok pc ins len = true := by
  by_cases hb : pc < 15
  · exact qwl_b qd_X11_isShow_0 hb h
  · exfalso; unfold qc_X11_isShow at h; rw [qblt_f hb] at h; cases h
theorem qd_X11_isSize_0 : (qwl qc_X11_isSize cX11_isSize (cX11_isSize).data.toList 0 && Nat.ble 16 (cX11_isSize).data.toList.length) = true := by decide +kernel
theorem qd_X11_isSize {pc : Nat} {ins : Instr} {len : Nat} (h : qc_X11_isSize pc = some (ins, len)) : decode cX11_isSize pc = .ok (ins, len) ∧ qok pc ins len = true := by
  by_cases hb : pc < 16
  · exact qwl_b qd_X11_isSize_0 hb h
  · exfalso; unfold qc_X11_isSize at h; rw [qblt_f hb] at h; cases h
theorem qd_X11_isDoorSet_0 : (qwl qc_X11_isDoorSet cX11_isDoorSet (cX11_isDoorSet).data.toList 0 && Nat.ble 17 (cX11_isDoorSet).data.toList.length) = true := by decide +kernel
theorem qd_X11_isDoorSet {pc : Nat} {ins : Instr} {len : Nat} (h : qc_X11_isDoorSet pc = some (ins, len)) : decode cX11_isDoorSet pc = .ok (ins, len) ∧ qok pc ins len = true := by
  by_cases hb : pc < 17
  · exact qwl_b qd_X11_isDoorSet_0 hb h
  · exfalso; unfold qc_X11_isDoorSet at h; rw [qblt_f hb] at h; cases h
theorem qd_X11_learnShow_0 : (qwl qc_X11_learnShow cX11_learnShow (cX11_learnShow).data.toList 0 && Nat.ble 48 (cX11_learnShow).data.toList.length) = true := by decide +kernel
theorem qd_X11_learnShow {pc : Nat} {ins : Instr} {len : Nat} (h : qc_X11_learnShow pc = some (ins, len)) : decode cX11_learnShow pc = .ok (ins, len) ∧ qok pc ins len = true := by
  by_cases hb : pc < 48
  · exact qwl_b qd_X11_learnShow_0 hb h
  · exfalso; unfold qc_X11_learnShow at h; rw [qblt_f hb] at h; cases h
theorem qd_X11_isManTrue_0 : (qwl qc_X11_isManTrue cX11_isManTrue (cX11_isManTrue).data.toList 0 && Nat.ble 53 (cX11_isManTrue).data.toList.length) = true := by decide +kernel
theorem qd_X11_isManTrue {pc : Nat} {ins : Instr} {len : Nat} (h : qc_X11_isManTrue pc = some (ins, len)) : decode cX11_isManTrue pc = .ok (ins, len) ∧ qok pc ins len = true := by
  by_cases hb : pc < 53
  · exact qwl_b qd_X11_isManTrue_0 hb h
  · exfalso; unfold qc_X11_isManTrue at h; rw [qblt_f hb] at h; cases h
theorem qd_X11_learnFacts_0 : (qwl qc_X11_learnFacts cX11_learnFacts (cX11_learnFacts).data.toList 0 && Nat.ble 35 (cX11_learnFacts).data.toList.length) = true := by decide +kernel
theorem qd_X11_learnFacts {pc : Nat} {ins : Instr} {len : Nat} (h : qc_X11_learnFacts pc = some (ins, len)) : decode cX11_learnFacts pc = .ok (ins, len) ∧ qok pc ins len = true := by
  by_cases hb : pc < 35
  · exact qwl_b qd_X11_learnFacts_0 hb h
  · exfalso; unfold qc_X11_learnFacts at h; rw [qblt_f hb] at h; cases h
theorem qd_X12_init_0 : (qwl qc_X12_init cX12_init (cX12_init).data.toList 0 && Nat.ble 401 (cX12_init).data.toList.length) = true := by decide +kernel
theorem qd_X12_init {pc : Nat} {ins : Instr} {len : Nat} (h : qc_X12_init pc = some (ins, len)) : decode cX12_init pc = .ok (ins, len) ∧ qok pc ins len = true := by
  by_cases hb : pc < 401
  · exact qwl_b qd_X12_init_0 hb h
  · exfalso; unfold qc_X12_init at h; rw [qblt_f hb] at h; cases h
theorem qd_X12_isIn_0 : (qwl qc_X12_isIn cX12_isIn (cX12_isIn).data.toList 0 && Nat.ble 16 (cX12_isIn).data.toList.length) = true := by decide +kernel
theorem qd_X12_isIn {pc : Nat} {ins : Instr} {len : Nat} (h : qc_X12_isIn pc = some (ins, len)) : decode cX12_isIn pc = .ok (ins, len) ∧ qok pc ins len = true := by
  by_cases hb : pc < 16
  · exact qwl_b qd_X12_isIn_0 hb h
  · exfalso; unfold qc_X12_isIn at h; rw [qblt_f hb] at h; cases h
theorem qd_X12_isChest_0 : (qwl qc_X12_isChest cX12_isChest (cX12_isChest).data.toList 0 && Nat.ble 7 (cX12_isChest).data.toList.length) = true := by decide +kernel
theorem qd_X12_isChest {pc : Nat} {ins : Instr} {len : Nat} (h : qc_X12_isChest pc = some (ins, len)) : decode cX12_isChest pc = .ok (ins, len) ∧ qok pc ins len = true := by
  by_cases hb : pc < 7
  · exact qwl_b qd_X12_isChest_0 hb h
  · exfalso; unfold qc_X12_isChest at h; rw [qblt_f hb] at h; cases h
theorem qd_X12_isSpace_0 : (qwl qc_X12_isSpace cX12_isSpace (cX12_isSpace).data.toList 0 && Nat.ble 8 (cX12_isSpace).data.toList.length) = true := by decide +kernel
theorem qd_X12_isSpace {pc : Nat} {ins : Instr} {len : Nat} (h : qc_X12_isSpace pc = some (ins, len)) : decode cX12_isSpace pc = .ok (ins, len) ∧ qok pc ins len = true := by
  by_cases hb : pc < 8
  · exact qwl_b qd_X12_isSpace_0 hb h
  · exfalso; unfold qc_X12_isSpace at h; rw [qblt_f hb] at h; cases h
theorem qd_X12_isShow_0 : (qwl qc_X12_isShow cX12_isShow (cX12_isShow).data.toList 0 && Nat.ble 7 (cX12_isShow).data.toList.length) = true := by decide +kernel
theorem qd_X12_isShow {pc : Nat} {ins : Instr} {len : Nat} (h : qc_X12_isShow pc = some (ins, len)) : decode cX12_isShow pc = .ok (ins, len) ∧ qok pc ins len = true := by
  by_cases hb : pc < 7
  · exact qwl_b qd_X12_isShow_0 hb h
  · exfalso; unfold qc_X12_isShow at h; rw [qblt_f hb] at h; cases h
theorem qd_X12_isSize_0 : (qwl qc_X12_isSize cX12_isSize (cX12_isSize).data.toList 0 && Nat.ble 7 (cX12_isSize).data.toList.length) = true := by decide +kernel
theorem qd_X12_isSize {pc : Nat} {ins : Instr} {len : Nat} (h : qc_X12_isSize pc = some (ins, len)) : decode cX12_isSize pc = .ok (ins, len) ∧ qok pc ins len = true := by
  by_cases hb : pc < 7
  · exact qwl_b qd_X12_isSize_0 hb h
  · exfalso; unfold qc_X12_isSize at h; rw [qblt_f hb] at h; cases h
theorem qd_X12_bits_0 : (qwl qc_X12_bits cX12_bits (cX12_bits).data.toList 0 && Nat.ble 26 (cX12_bits).data.toList.length) = true := by decide +kernel
theorem qd_X12_bits {pc : Nat} {ins : Instr} {len : Nat} (h : qc_X12_bits pc = some (ins, len)) : decode cX12_bits pc = .ok (ins, len) ∧ qok pc ins len = true := by
  by_cases hb : pc < 26
  · exact qwl_b qd_X12_bits_0 hb h
  · exfalso; unfold qc_X12_bits at h; rw [qblt_f hb] at h; cases h
theorem qd_X12_apart_0 : (qwl qc_X12_apart cX12_apart (cX12_apart).data.toList 0 && Nat.ble 15 (cX12_apart).data.toList.length) = true := by decide +kernel
theorem qd_X12_apart {pc : Nat} {ins : Instr} {len : Nat} (h : qc_X12_apart pc = some (ins, len)) : decode cX12_apart pc = .ok (ins, len) ∧ qok pc ins len = true := by
  by_cases hb : pc < 15
  · exact qwl_b qd_X12_apart_0 hb h
  · exfalso; unfold qc_X12_apart at h; rw [qblt_f hb] at h; cases h
theorem qd_X12_areNeighbours_0 : (qwl qc_X12_areNeighbours cX12_areNeighbours (cX12_areNeighbours).data.toList 0 && Nat.ble 45 (cX12_areNeighbours).data.toList.length) = true := by decide +kernel
theorem qd_X12_areNeighbours {pc : Nat} {ins : Instr} {len : Nat} (h : qc_X12_areNeighbours pc = some (ins, len)) : decode cX12_areNeighbours pc = .ok (ins, len) ∧ qok pc ins len = true := by
  by_cases hb : pc < 45
  · exact qwl_b qd_X12_areNeighbours_0 hb h
  · exfalso; unfold qc_X12_areNeighbours at h; rw [qblt_f hb] at h; cases h
theorem qd_X12_works_0 : (qwl qc_X12_works cX12_works (cX12_works).data.toList 0 && Nat.ble 58 (cX12_works).data.toList.length) = true := by decide +kernel
theorem qd_X12_works {pc : Nat} {ins : Instr} {len : Nat} (h : qc_X12_works pc = some (ins, len)) : decode cX12_works pc = .ok (ins, len) ∧ qok pc ins len = true := by
  by_cases hb : pc < 58
  · exact qwl_b qd_X12_works_0 hb h
  · exfalso; unfold qc_X12_works at h; rw [qblt_f hb] at h; cases h
theorem qd_X12_wall_0 : (qwl qc_X12_wall cX12_wall (cX12_wall).data.toList 0 && Nat.ble 132 (cX12_wall).data.toList.length) = true := by decide +kernel
theorem qd_X12_wall {pc : Nat} {ins : Instr} {len : Nat} (h : qc_X12_wall pc = some (ins, len)) : decode cX12_wall pc = .ok (ins, len) ∧ qok pc ins len = true := by
  by_cases hb : pc < 132
  · exact qwl_b qd_X12_wall_0 hb h
  · exfalso; unfold qc_X12_wall at h; rw [qblt_f hb] at h; cases h
theorem qd_X12_isSet_0 : (qwl qc_X12_isSet cX12_isSet (cX12_isSet).data.toList 0 && Nat.ble 8 (cX12_isSet).data.toList.length) = true := by decide +kernel
theorem qd_X12_isSet {pc : Nat} {ins : Instr} {len : Nat} (h : qc_X12_isSet pc = some (ins, len)) : decode cX12_isSet pc = .ok (ins, len) ∧ qok pc ins len = true := by
  by_cases hb : pc < 8
  · exact qwl_b qd_X12_isSet_0 hb h
  · exfalso; unfold qc_X12_isSet at h; rw [qblt_f hb] at h; cases h
theorem qd_X12_door_0 : (qwl qc_X12_door cX12_door (cX12_door).data.toList 0 && Nat.ble 94 (cX12_door).data.toList.length) = true := by decide +kernel
theorem qd_X12_door {pc : Nat} {ins : Instr} {len : Nat} (h : qc_X12_door pc = some (ins, len)) : decode cX12_door pc = .ok (ins, len) ∧ qok pc ins len = true := by
  by_cases hb : pc < 94
  · exact qwl_b qd_X12_door_0 hb h
  · exfalso; unfold qc_X12_door at h; rw [qblt_f hb] at h; cases h
theorem qd_X12_isPassage_0 : (qwl qc_X12_isPassage cX12_isPassage (cX12_isPassage).data.toList 0 && Nat.ble 32 (cX12_isPassage).data.toList.length) = true := by decide +kernel
theorem qd_X12_isPassage {pc : Nat} {ins : Instr} {len : Nat} (h : qc_X12_isPassage pc = some (ins, len)) : decode cX12_isPassage pc = .ok (ins, len) ∧ qok pc ins len = true := by
  by_cases hb : pc < 32
  · exact qwl_b qd_X12_isPassage_0 hb h
  · exfalso; unfold qc_X12_isPassage at h; rw [qblt_f hb] at h; cases h
theorem qd_X12_hangs_0 : (qwl qc_X12_hangs cX12_hangs (cX12_hangs).data.toList 0 && Nat.ble 134 (cX12_hangs).data.toList.length) = true := by decide +kernel
theorem qd_X12_hangs {pc : Nat} {ins : Instr} {len : Nat} (h : qc_X12_hangs pc = some (ins, len)) : decode cX12_hangs pc = .ok (ins, len) ∧ qok pc ins len = true := by
  by_cases hb : pc < 134
  · exact qwl_b qd_X12_hangs_0 hb h
  · exfalso; unfold qc_X12_hangs at h; rw [qblt_f hb] at h; cases h
theorem qd_X12_findsPoses_0 : (qwl qc_X12_findsPoses cX12_findsPoses (cX12_findsPoses).data.toList 0 && Nat.ble 189 (cX12_findsPoses).data.toList.length) = true := by decide +kernel
theorem qd_X12_findsPoses {pc : Nat} {ins : Instr} {len : Nat} (h : qc_X12_findsPoses pc = some (ins, len)) : decode cX12_findsPoses pc = .ok (ins, len) ∧ qok pc ins len = true := by
  by_cases hb : pc < 189
  · exact qwl_b qd_X12_findsPoses_0 hb h
  · exfalso; unfold qc_X12_findsPoses at h; rw [qblt_f hb] at h; cases h
theorem qd_X12_poses_0 : (qwl qc_X12_poses cX12_poses (cX12_poses).data.toList 0 && Nat.ble 27 (cX12_poses).data.toList.length) = true := by decide +kernel
theorem qd_X12_poses {pc : Nat} {ins : Instr} {len : Nat} (h : qc_X12_poses pc = some (ins, len)) : decode cX12_poses pc = .ok (ins, len) ∧ qok pc ins len = true := by
  by_cases hb : pc < 27
  · exact qwl_b qd_X12_poses_0 hb h
  · exfalso; unfold qc_X12_poses at h; rw [qblt_f hb] at h; cases h
theorem qd_X12_feed_0 : (qwl qc_X12_feed cX12_feed (cX12_feed).data.toList 0 && Nat.ble 120 (cX12_feed).data.toList.length) = true := by decide +kernel
theorem qd_X12_feed {pc : Nat} {ins : Instr} {len : Nat} (h : qc_X12_feed pc = some (ins, len)) : decode cX12_feed pc = .ok (ins, len) ∧ qok pc ins len = true := by
  by_cases hb : pc < 120
  · exact qwl_b qd_X12_feed_0 hb h
  · exfalso; unfold qc_X12_feed at h; rw [qblt_f hb] at h; cases h
theorem qd_X12_end_0 : (qwl qc_X12_end cX12_end (cX12_end).data.toList 0 && Nat.ble 21 (cX12_end).data.toList.length) = true := by decide +kernel
theorem qd_X12_end {pc : Nat} {ins : Instr} {len : Nat} (h : qc_X12_end pc = some (ins, len)) : decode cX12_end pc = .ok (ins, len) ∧ qok pc ins len = true := by
  by_cases hb : pc < 21
  · exact qwl_b qd_X12_end_0 hb h
  · exfalso; unfold qc_X12_end at h; rw [qblt_f hb] at h; cases h
theorem qd_X12_see_0 : (qwl qc_X12_see cX12_see (cX12_see).data.toList 0 && Nat.ble 19 (cX12_see).data.toList.length) = true := by decide +kernel
theorem qd_X12_see {pc : Nat} {ins : Instr} {len : Nat} (h : qc_X12_see pc = some (ins, len)) : decode cX12_see pc = .ok (ins, len) ∧ qok pc ins len = true := by
  by_cases hb : pc < 19
  · exact qwl_b qd_X12_see_0 hb h
  · exfalso; unfold qc_X12_see at h; rw [qblt_f hb] at h; cases h
theorem qd_X12_isLetter_0 : (qwl qc_X12_isLetter cX12_isLetter (cX12_isLetter).data.toList 0 && Nat.ble 28 (cX12_isLetter).data.toList.length) = true := by decide +kernel
theorem qd_X12_isLetter {pc : Nat} {ins : Instr} {len : Nat} (h : qc_X12_isLetter pc = some (ins, len)) : decode cX12_isLetter pc = .ok (ins, len) ∧ qok pc ins len = true := by
  by_cases hb : pc < 28
  · exact qwl_b qd_X12_isLetter_0 hb h
  · exfalso; unfold qc_X12_isLetter at h; rw [qblt_f hb] at h; cases h
theorem qd_X12_isDigit_0 : (qwl qc_X12_isDigit cX12_isDigit (cX12_isDigit).data.toList 0 && Nat.ble 9 (cX12_isDigit).data.toList.length) = true := by decide +kernel
theorem qd_X12_isDigit {pc : Nat} {ins : Instr} {len : Nat} (h : qc_X12_isDigit pc = some (ins, len)) : decode cX12_isDigit pc = .ok (ins, len) ∧ qok pc ins len = true := by
  by_cases hb : pc < 9
  · exact qwl_b qd_X12_isDigit_0 hb h
  · exfalso; unfold qc_X12_isDigit at h; rw [qblt_f hb] at h; cases h
theorem qd_X12_is_0 : (qwl qc_X12_is cX12_is (cX12_is).data.toList 0 && Nat.ble 69 (cX12_is).data.toList.length) = true := by decide +kernel
theorem qd_X12_is {pc : Nat} {ins : Instr} {len : Nat} (h : qc_X12_is pc = some (ins, len)) : decode cX12_is pc = .ok (ins, len) ∧ qok pc ins len = true := by
  by_cases hb : pc < 69
  · exact qwl_b qd_X12_is_0 hb h
  · exfalso; unfold qc_X12_is at h; rw [qblt_f hb] at h; cases h
theorem qd_X12_showWord_0 : (qwl qc_X12_showWord cX12_showWord (cX12_showWord).data.toList 0 && Nat.ble 76 (cX12_showWord).data.toList.length) = true := by decide +kernel
theorem qd_X12_showWord {pc : Nat} {ins : Instr} {len : Nat} (h : qc_X12_showWord pc = some (ins, len)) : decode cX12_showWord pc = .ok (ins, len) ∧ qok pc ins len = true := by
  by_cases hb : pc < 76
  · exact qwl_b qd_X12_showWord_0 hb h
  · exfalso; unfold qc_X12_showWord at h; rw [qblt_f hb] at h; cases h
theorem qd_X12_word_0 : (qwl qc_X12_word cX12_word (cX12_word).data.toList 0 && Nat.ble 180 (cX12_word).data.toList.length) = true := by decide +kernel
theorem qd_X12_word {pc : Nat} {ins : Instr} {len : Nat} (h : qc_X12_word pc = some (ins, len)) : decode cX12_word pc = .ok (ins, len) ∧ qok pc ins len = true := by
  by_cases hb : pc < 180
  · exact qwl_b qd_X12_word_0 hb h
  · exfalso; unfold qc_X12_word at h; rw [qblt_f hb] at h; cases h
theorem qd_X12_isSign_0 : (qwl qc_X12_isSign cX12_isSign (cX12_isSign).data.toList 0 && Nat.ble 73 (cX12_isSign).data.toList.length) = true := by decide +kernel
theorem qd_X12_isSign {pc : Nat} {ins : Instr} {len : Nat} (h : qc_X12_isSign pc = some (ins, len)) : decode cX12_isSign pc = .ok (ins, len) ∧ qok pc ins len = true := by
  by_cases hb : pc < 73
  · exact qwl_b qd_X12_isSign_0 hb h
  · exfalso; unfold qc_X12_isSign at h; rw [qblt_f hb] at h; cases h
theorem qd_X12_next0_0 : (qwl qc_X12_next0 cX12_next0 (cX12_next0).data.toList 0 && Nat.ble 245 (cX12_next0).data.toList.length) = true := by decide +kernel
theorem qd_X12_next0 {pc : Nat} {ins : Instr} {len : Nat} (h : qc_X12_next0 pc = some (ins, len)) : decode cX12_next0 pc = .ok (ins, len) ∧ qok pc ins len = true := by
  by_cases hb : pc < 245
  · exact qwl_b qd_X12_next0_0 hb h
  · exfalso; unfold qc_X12_next0 at h; rw [qblt_f hb] at h; cases h
theorem qd_X12_bad_0 : (qwl qc_X12_bad cX12_bad (cX12_bad).data.toList 0 && Nat.ble 15 (cX12_bad).data.toList.length) = true := by decide +kernel
theorem qd_X12_bad {pc : Nat} {ins : Instr} {len : Nat} (h : qc_X12_bad pc = some (ins, len)) : decode cX12_bad pc = .ok (ins, len) ∧ qok pc ins len = true := by
  by_cases hb : pc < 15
  · exact qwl_b qd_X12_bad_0 hb h
  · exfalso; unfold qc_X12_bad at h; rw [qblt_f hb] at h; cases h
theorem qd_X12_need_0 : (qwl qc_X12_need cX12_need (cX12_need).data.toList 0 && Nat.ble 20 (cX12_need).data.toList.length) = true := by decide +kernel
theorem qd_X12_need {pc : Nat} {ins : Instr} {len : Nat} (h : qc_X12_need pc = some (ins, len)) : decode cX12_need pc = .ok (ins, len) ∧ qok pc ins len = true := by
  by_cases hb : pc < 20
  · exact qwl_b qd_X12_need_0 hb h
  · exfalso; unfold qc_X12_need at h; rw [qblt_f hb] at h; cases h
theorem qd_X12_number_0 : (qwl qc_X12_number cX12_number (cX12_number).data.toList 0 && Nat.ble 38 (cX12_number).data.toList.length) = true := by decide +kernel
theorem qd_X12_number {pc : Nat} {ins : Instr} {len : Nat} (h : qc_X12_number pc = some (ins, len)) : decode cX12_number pc = .ok (ins, len) ∧ qok pc ins len = true := by
  by_cases hb : pc < 38
  · exact qwl_b qd_X12_number_0 hb h
  · exfalso; unfold qc_X12_number at h; rw [qblt_f hb] at h; cases h
theorem qd_X12_lay_0 : (qwl qc_X12_lay cX12_lay (cX12_lay).data.toList 0 && Nat.ble 37 (cX12_lay).data.toList.length) = true := by decide +kernel
theorem qd_X12_lay {pc : Nat} {ins : Instr} {len : Nat} (h : qc_X12_lay pc = some (ins, len)) : decode cX12_lay pc = .ok (ins, len) ∧ qok pc ins len = true := by
  by_cases hb : pc < 37
  · exact qwl_b qd_X12_lay_0 hb h
  · exfalso; unfold qc_X12_lay at h; rw [qblt_f hb] at h; cases h
theorem qd_X12_opens_0 : (qwl qc_X12_opens cX12_opens (cX12_opens).data.toList 0 && Nat.ble 31 (cX12_opens).data.toList.length) = true := by decide +kernel
theorem qd_X12_opens {pc : Nat} {ins : Instr} {len : Nat} (h : qc_X12_opens pc = some (ins, len)) : decode cX12_opens pc = .ok (ins, len) ∧ qok pc ins len = true := by
  by_cases hb : pc < 31
  · exact qwl_b qd_X12_opens_0 hb h
  · exfalso; unfold qc_X12_opens at h; rw [qblt_f hb] at h; cases h
theorem qd_X12_sumUp_0 : (qwl qc_X12_sumUp cX12_sumUp (cX12_sumUp).data.toList 0 && Nat.ble 71 (cX12_sumUp).data.toList.length) = true := by decide +kernel
theorem qd_X12_sumUp {pc : Nat} {ins : Instr} {len : Nat} (h : qc_X12_sumUp pc = some (ins, len)) : decode cX12_sumUp pc = .ok (ins, len) ∧ qok pc ins len = true := by
  by_cases hb : pc < 71
  · exact qwl_b qd_X12_sumUp_0 hb h
  · exfalso; unfold qc_X12_sumUp at h; rw [qblt_f hb] at h; cases h
theorem qd_X12_product_0 : (qwl qc_X12_product cX12_product (cX12_product).data.toList 0 && Nat.ble 102 (cX12_product).data.toList.length) = true := by decide +kernel
theorem qd_X12_product {pc : Nat} {ins : Instr} {len : Nat} (h : qc_X12_product pc = some (ins, len)) : decode cX12_product pc = .ok (ins, len) ∧ qok pc ins len = true := by
  by_cases hb : pc < 102
  · exact qwl_b qd_X12_product_0 hb h
  · exfalso; unfold qc_X12_product at h; rw [qblt_f hb] at h; cases h
theorem qd_X12_unit_0 : (qwl qc_X12_unit cX12_unit (cX12_unit).data.toList 0 && Nat.ble 80 (cX12_unit).data.toList.length) = true := by decide +kernel
theorem qd_X12_unit {pc : Nat} {ins : Instr} {len : Nat} (h : qc_X12_unit pc = some (ins, len)) : decode cX12_unit pc = .ok (ins, len) ∧ qok pc ins len = true := by
  by_cases hb : pc < 80
  · exact qwl_b qd_X12_unit_0 hb h
  · exfalso; unfold qc_X12_unit at h; rw [qblt_f hb] at h; cases h
theorem qd_X12_any_0 : (qwl qc_X12_any cX12_any (cX12_any).data.toList 0 && Nat.ble 42 (cX12_any).data.toList.length) = true := by decide +kernel
theorem qd_X12_any {pc : Nat} {ins : Instr} {len : Nat} (h : qc_X12_any pc = some (ins, len)) : decode cX12_any pc = .ok (ins, len) ∧ qok pc ins len = true := by
  by_cases hb : pc < 42
  · exact qwl_b qd_X12_any_0 hb h
  · exfalso; unfold qc_X12_any at h; rw [qblt_f hb] at h; cases h
theorem qd_X12_every_0 : (qwl qc_X12_every cX12_every (cX12_every).data.toList 0 && Nat.ble 42 (cX12_every).data.toList.length) = true := by decide +kernel
theorem qd_X12_every {pc : Nat} {ins : Instr} {len : Nat} (h : qc_X12_every pc = some (ins, len)) : decode cX12_every pc = .ok (ins, len) ∧ qok pc ins len = true := by
  by_cases hb : pc < 42
  · exact qwl_b qd_X12_every_0 hb h
  · exfalso; unfold qc_X12_every at h; rw [qblt_f hb] at h; cases h
theorem qd_X12_one_0 : (qwl qc_X12_one cX12_one (cX12_one).data.toList 0 && Nat.ble 180 (cX12_one).data.toList.length) = true := by decide +kernel
theorem qd_X12_one {pc : Nat} {ins : Instr} {len : Nat} (h : qc_X12_one pc = some (ins, len)) : decode cX12_one pc = .ok (ins, len) ∧ qok pc ins len = true := by
  by_cases hb : pc < 180
  · exact qwl_b qd_X12_one_0 hb h
  · exfalso; unfold qc_X12_one at h; rw [qblt_f hb] at h; cases h
theorem qd_X12_aStep_0 : (qwl qc_X12_aStep cX12_aStep (cX12_aStep).data.toList 0 && Nat.ble 124 (cX12_aStep).data.toList.length) = true := by decide +kernel
theorem qd_X12_aStep {pc : Nat} {ins : Instr} {len : Nat} (h : qc_X12_aStep pc = some (ins, len)) : decode cX12_aStep pc = .ok (ins, len) ∧ qok pc ins len = true := by
  by_cases hb : pc < 124
  · exact qwl_b qd_X12_aStep_0 hb h
  · exfalso; unfold qc_X12_aStep at h; rw [qblt_f hb] at h; cases h
theorem qd_X12_aReason_0 : (qwl qc_X12_aReason cX12_aReason (cX12_aReason).data.toList 0 && Nat.ble 125 (cX12_aReason).data.toList.length) = true := by decide +kernel
theorem qd_X12_aReason {pc : Nat} {ins : Instr} {len : Nat} (h : qc_X12_aReason pc = some (ins, len)) : decode cX12_aReason pc = .ok (ins, len) ∧ qok pc ins len = true := by
  by_cases hb : pc < 125
  · exact qwl_b qd_X12_aReason_0 hb h
  · exfalso; unfold qc_X12_aReason at h; rw [qblt_f hb] at h; cases h
theorem qd_X12_text_0 : (qwl qc_X12_text cX12_text (cX12_text).data.toList 0 && Nat.ble 165 (cX12_text).data.toList.length) = true := by decide +kernel
theorem qd_X12_text {pc : Nat} {ins : Instr} {len : Nat} (h : qc_X12_text pc = some (ins, len)) : decode cX12_text pc = .ok (ins, len) ∧ qok pc ins len = true := by
  by_cases hb : pc < 165
  · exact qwl_b qd_X12_text_0 hb h
  · exfalso; unfold qc_X12_text at h; rw [qblt_f hb] at h; cases h
theorem qd_X12_keepsShow_0 : (qwl qc_X12_keepsShow cX12_keepsShow (cX12_keepsShow).data.toList 0 && Nat.ble 61 (cX12_keepsShow).data.toList.length) = true := by decide +kernel
theorem qd_X12_keepsShow {pc : Nat} {ins : Instr} {len : Nat} (h : qc_X12_keepsShow pc = some (ins, len)) : decode cX12_keepsShow pc = .ok (ins, len) ∧ qok pc ins len = true := by
  by_cases hb : pc < 61
  · exact qwl_b qd_X12_keepsShow_0 hb h
  · exfalso; unfold qc_X12_keepsShow at h; rw [qblt_f hb] at h; cases h
theorem qd_X12_keepsReasons_0 : (qwl qc_X12_keepsReasons cX12_keepsReasons (cX12_keepsReasons).data.toList 0 && Nat.ble 95 (cX12_keepsReasons).data.toList.length) = true := by decide +kernel
theorem qd_X12_keepsReasons {pc : Nat} {ins : Instr} {len : Nat} (h : qc_X12_keepsReasons pc = some (ins, len)) : decode cX12_keepsReasons pc = .ok (ins, len) ∧ qok pc ins len = true := by
  by_cases hb : pc < 95
  · exact qwl_b qd_X12_keepsReasons_0 hb h
  · exfalso; unfold qc_X12_keepsReasons at h; rw [qblt_f hb] at h; cases h
theorem qd_X12_fault_0 : (qwl qc_X12_fault cX12_fault (cX12_fault).data.toList 0 && Nat.ble 25 (cX12_fault).data.toList.length) = true := by decide +kernel
theorem qd_X12_fault {pc : Nat} {ins : Instr} {len : Nat} (h : qc_X12_fault pc = some (ins, len)) : decode cX12_fault pc = .ok (ins, len) ∧ qok pc ins len = true := by
  by_cases hb : pc < 25
  · exact qwl_b qd_X12_fault_0 hb h
  · exfalso; unfold qc_X12_fault at h; rw [qblt_f hb] at h; cases h
theorem qd_X12_sees_0 : (qwl qc_X12_sees cX12_sees (cX12_sees).data.toList 0 && Nat.ble 70 (cX12_sees).data.toList.length) = true := by decide +kernel
theorem qd_X12_sees {pc : Nat} {ins : Instr} {len : Nat} (h : qc_X12_sees pc = some (ins, len)) : decode cX12_sees pc = .ok (ins, len) ∧ qok pc ins len = true := by
  by_cases hb : pc < 70
  · exact qwl_b qd_X12_sees_0 hb h
  · exfalso; unfold qc_X12_sees at h; rw [qblt_f hb] at h; cases h
theorem qd_X12_through_0 : (qwl qc_X12_through cX12_through (cX12_through).data.toList 0 && Nat.ble 78 (cX12_through).data.toList.length) = true := by decide +kernel
theorem qd_X12_through {pc : Nat} {ins : Instr} {len : Nat} (h : qc_X12_through pc = some (ins, len)) : decode cX12_through pc = .ok (ins, len) ∧ qok pc ins len = true := by
  by_cases hb : pc < 78
  · exact qwl_b qd_X12_through_0 hb h
  · exfalso; unfold qc_X12_through at h; rw [qblt_f hb] at h; cases h
theorem qd_X12_begins_0 : (qwl qc_X12_begins cX12_begins (cX12_begins).data.toList 0 && Nat.ble 36 (cX12_begins).data.toList.length) = true := by decide +kernel
theorem qd_X12_begins {pc : Nat} {ins : Instr} {len : Nat} (h : qc_X12_begins pc = some (ins, len)) : decode cX12_begins pc = .ok (ins, len) ∧ qok pc ins len = true := by
  by_cases hb : pc < 36
  · exact qwl_b qd_X12_begins_0 hb h
  · exfalso; unfold qc_X12_begins at h; rw [qblt_f hb] at h; cases h
theorem qd_X12_does_0 : (qwl qc_X12_does cX12_does (cX12_does).data.toList 0 && Nat.ble 175 (cX12_does).data.toList.length) = true := by decide +kernel
theorem qd_X12_does {pc : Nat} {ins : Instr} {len : Nat} (h : qc_X12_does pc = some (ins, len)) : decode cX12_does pc = .ok (ins, len) ∧ qok pc ins len = true := by
  by_cases hb : pc < 175
  · exact qwl_b qd_X12_does_0 hb h
  · exfalso; unfold qc_X12_does at h; rw [qblt_f hb] at h; cases h
theorem qd_X12_shows_0 : (qwl qc_X12_shows cX12_shows (cX12_shows).data.toList 0 && Nat.ble 50 (cX12_shows).data.toList.length) = true := by decide +kernel
theorem qd_X12_shows {pc : Nat} {ins : Instr} {len : Nat} (h : qc_X12_shows pc = some (ins, len)) : decode cX12_shows pc = .ok (ins, len) ∧ qok pc ins len = true := by
  by_cases hb : pc < 50
  · exact qwl_b qd_X12_shows_0 hb h
  · exfalso; unfold qc_X12_shows at h; rw [qblt_f hb] at h; cases h
theorem qd_X12_seen_0 : (qwl qc_X12_seen cX12_seen (cX12_seen).data.toList 0 && Nat.ble 47 (cX12_seen).data.toList.length) = true := by decide +kernel
theorem qd_X12_seen {pc : Nat} {ins : Instr} {len : Nat} (h : qc_X12_seen pc = some (ins, len)) : decode cX12_seen pc = .ok (ins, len) ∧ qok pc ins len = true := by
  by_cases hb : pc < 47
  · exact qwl_b qd_X12_seen_0 hb h
  · exfalso; unfold qc_X12_seen at h; rw [qblt_f hb] at h; cases h
theorem qd_X12_run_0 : (qwl qc_X12_run cX12_run (cX12_run).data.toList 0 && Nat.ble 71 (cX12_run).data.toList.length) = true := by decide +kernel
theorem qd_X12_run {pc : Nat} {ins : Instr} {len : Nat} (h : qc_X12_run pc = some (ins, len)) : decode cX12_run pc = .ok (ins, len) ∧ qok pc ins len = true := by
  by_cases hb : pc < 71
  · exact qwl_b qd_X12_run_0 hb h
  · exfalso; unfold qc_X12_run at h; rw [qblt_f hb] at h; cases h
theorem qd_X12_isMove_0 : (qwl qc_X12_isMove cX12_isMove (cX12_isMove).data.toList 0 && Nat.ble 41 (cX12_isMove).data.toList.length) = true := by decide +kernel
theorem qd_X12_isMove {pc : Nat} {ins : Instr} {len : Nat} (h : qc_X12_isMove pc = some (ins, len)) : decode cX12_isMove pc = .ok (ins, len) ∧ qok pc ins len = true := by
  by_cases hb : pc < 41
  · exact qwl_b qd_X12_isMove_0 hb h
  · exfalso; unfold qc_X12_isMove at h; rw [qblt_f hb] at h; cases h
theorem qd_X12_hides_0 : (qwl qc_X12_hides cX12_hides (cX12_hides).data.toList 0 && Nat.ble 239 (cX12_hides).data.toList.length) = true := by decide +kernel
theorem qd_X12_hides {pc : Nat} {ins : Instr} {len : Nat} (h : qc_X12_hides pc = some (ins, len)) : decode cX12_hides pc = .ok (ins, len) ∧ qok pc ins len = true := by
  by_cases hb : pc < 239
  · exact qwl_b qd_X12_hides_0 hb h
  · exfalso; unfold qc_X12_hides at h; rw [qblt_f hb] at h; cases h
theorem qd_X12_hide_0 : (qwl qc_X12_hide cX12_hide (cX12_hide).data.toList 0 && Nat.ble 81 (cX12_hide).data.toList.length) = true := by decide +kernel
theorem qd_X12_hide {pc : Nat} {ins : Instr} {len : Nat} (h : qc_X12_hide pc = some (ins, len)) : decode cX12_hide pc = .ok (ins, len) ∧ qok pc ins len = true := by
  by_cases hb : pc < 81
  · exact qwl_b qd_X12_hide_0 hb h
  · exfalso; unfold qc_X12_hide at h; rw [qblt_f hb] at h; cases h
theorem qd_X12_isGoing_0 : (qwl qc_X12_isGoing cX12_isGoing (cX12_isGoing).data.toList 0 && Nat.ble 31 (cX12_isGoing).data.toList.length) = true := by decide +kernel
theorem qd_X12_isGoing {pc : Nat} {ins : Instr} {len : Nat} (h : qc_X12_isGoing pc = some (ins, len)) : decode cX12_isGoing pc = .ok (ins, len) ∧ qok pc ins len = true := by
  by_cases hb : pc < 31
  · exact qwl_b qd_X12_isGoing_0 hb h
  · exfalso; unfold qc_X12_isGoing at h; rw [qblt_f hb] at h; cases h
theorem qd_X12_leadsBack_0 : (qwl qc_X12_leadsBack cX12_leadsBack (cX12_leadsBack).data.toList 0 && Nat.ble 178 (cX12_leadsBack).data.toList.length) = true := by decide +kernel
theorem qd_X12_leadsBack {pc : Nat} {ins : Instr} {len : Nat} (h : qc_X12_leadsBack pc = some (ins, len)) : decode cX12_leadsBack pc = .ok (ins, len) ∧ qok pc ins len = true := by
  by_cases hb : pc < 178
  · exact qwl_b qd_X12_leadsBack_0 hb h
  · exfalso; unfold qc_X12_leadsBack at h; rw [qblt_f hb] at h; cases h
theorem qd_X12_way_0 : (qwl qc_X12_way cX12_way (cX12_way).data.toList 0 && Nat.ble 177 (cX12_way).data.toList.length) = true := by decide +kernel
theorem qd_X12_way {pc : Nat} {ins : Instr} {len : Nat} (h : qc_X12_way pc = some (ins, len)) : decode cX12_way pc = .ok (ins, len) ∧ qok pc ins len = true := by
  by_cases hb : pc < 177
  · exact qwl_b qd_X12_way_0 hb h
  · exfalso; unfold qc_X12_way at h; rw [qblt_f hb] at h; cases h
theorem qd_X12_tries_0 : (qwl qc_X12_tries cX12_tries (cX12_tries).data.toList 0 && Nat.ble 237 (cX12_tries).data.toList.length) = true := by decide +kernel
theorem qd_X12_tries {pc : Nat} {ins : Instr} {len : Nat} (h : qc_X12_tries pc = some (ins, len)) : decode cX12_tries pc = .ok (ins, len) ∧ qok pc ins len = true := by
  by_cases hb : pc < 237
  · exact qwl_b qd_X12_tries_0 hb h
  · exfalso; unfold qc_X12_tries at h; rw [qblt_f hb] at h; cases h
theorem qd_X12_order_0 : (qwl qc_X12_order cX12_order (cX12_order).data.toList 0 && Nat.ble 131 (cX12_order).data.toList.length) = true := by decide +kernel
theorem qd_X12_order {pc : Nat} {ins : Instr} {len : Nat} (h : qc_X12_order pc = some (ins, len)) : decode cX12_order pc = .ok (ins, len) ∧ qok pc ins len = true := by
  by_cases hb : pc < 131
  · exact qwl_b qd_X12_order_0 hb h
  · exfalso; unfold qc_X12_order at h; rw [qblt_f hb] at h; cases h
theorem qd_X12_proof_0 : (qwl qc_X12_proof cX12_proof (cX12_proof).data.toList 0 && Nat.ble 183 (cX12_proof).data.toList.length) = true := by decide +kernel
theorem qd_X12_proof {pc : Nat} {ins : Instr} {len : Nat} (h : qc_X12_proof pc = some (ins, len)) : decode cX12_proof pc = .ok (ins, len) ∧ qok pc ins len = true := by
  by_cases hb : pc < 183
  · exact qwl_b qd_X12_proof_0 hb h
  · exfalso; unfold qc_X12_proof at h; rw [qblt_f hb] at h; cases h
theorem qd_X12_fact_0 : (qwl qc_X12_fact cX12_fact (cX12_fact).data.toList 0 && Nat.ble 109 (cX12_fact).data.toList.length) = true := by decide +kernel
theorem qd_X12_fact {pc : Nat} {ins : Instr} {len : Nat} (h : qc_X12_fact pc = some (ins, len)) : decode cX12_fact pc = .ok (ins, len) ∧ qok pc ins len = true := by
  by_cases hb : pc < 109
  · exact qwl_b qd_X12_fact_0 hb h
  · exfalso; unfold qc_X12_fact at h; rw [qblt_f hb] at h; cases h
theorem qd_X12_both_0 : (qwl qc_X12_both cX12_both (cX12_both).data.toList 0 && Nat.ble 105 (cX12_both).data.toList.length) = true := by decide +kernel
theorem qd_X12_both {pc : Nat} {ins : Instr} {len : Nat} (h : qc_X12_both pc = some (ins, len)) : decode cX12_both pc = .ok (ins, len) ∧ qok pc ins len = true := by
  by_cases hb : pc < 105
  · exact qwl_b qd_X12_both_0 hb h
  · exfalso; unfold qc_X12_both at h; rw [qblt_f hb] at h; cases h
theorem qd_X12_comesTo_0 : (qwl qc_X12_comesTo cX12_comesTo (cX12_comesTo).data.toList 0 && Nat.ble 156 (cX12_comesTo).data.toList.length) = true := by decide +kernel
theorem qd_X12_comesTo {pc : Nat} {ins : Instr} {len : Nat} (h : qc_X12_comesTo pc = some (ins, len)) : decode cX12_comesTo pc = .ok (ins, len) ∧ qok pc ins len = true := by
  by_cases hb : pc < 156
  · exact qwl_b qd_X12_comesTo_0 hb h
  · exfalso; unfold qc_X12_comesTo at h; rw [qblt_f hb] at h; cases h
theorem qd_X12_isMan_0 : (qwl qc_X12_isMan cX12_isMan (cX12_isMan).data.toList 0 && Nat.ble 21 (cX12_isMan).data.toList.length) = true := by decide +kernel
theorem qd_X12_isMan {pc : Nat} {ins : Instr} {len : Nat} (h : qc_X12_isMan pc = some (ins, len)) : decode cX12_isMan pc = .ok (ins, len) ∧ qok pc ins len = true := by
  by_cases hb : pc < 21
  · exact qwl_b qd_X12_isMan_0 hb h
  · exfalso; unfold qc_X12_isMan at h; rw [qblt_f hb] at h; cases h
theorem qd_X12_weighs_0 : (qwl qc_X12_weighs cX12_weighs (cX12_weighs).data.toList 0 && Nat.ble 48 (cX12_weighs).data.toList.length) = true := by decide +kernel
theorem qd_X12_weighs {pc : Nat} {ins : Instr} {len : Nat} (h : qc_X12_weighs pc = some (ins, len)) : decode cX12_weighs pc = .ok (ins, len) ∧ qok pc ins len = true := by
  by_cases hb : pc < 48
  · exact qwl_b qd_X12_weighs_0 hb h
  · exfalso; unfold qc_X12_weighs at h; rw [qblt_f hb] at h; cases h
theorem qd_X12_reason_0 : (qwl qc_X12_reason cX12_reason (cX12_reason).data.toList 0 && Nat.ble 28 (cX12_reason).data.toList.length) = true := by decide +kernel
theorem qd_X12_reason {pc : Nat} {ins : Instr} {len : Nat} (h : qc_X12_reason pc = some (ins, len)) : decode cX12_reason pc = .ok (ins, len) ∧ qok pc ins len = true := by
  by_cases hb : pc < 28
  · exact qwl_b qd_X12_reason_0 hb h
  · exfalso; unfold qc_X12_reason at h; rw [qblt_f hb] at h; cases h
theorem qd_X12_pamphlet_0 : (qwl qc_X12_pamphlet cX12_pamphlet (cX12_pamphlet).data.toList 0 && Nat.ble 74 (cX12_pamphlet).data.toList.length) = true := by decide +kernel
theorem qd_X12_pamphlet {pc : Nat} {ins : Instr} {len : Nat} (h : qc_X12_pamphlet pc = some (ins, len)) : decode cX12_pamphlet pc = .ok (ins, len) ∧ qok pc ins len = true := by
  by_cases hb : pc < 74
  · exact qwl_b qd_X12_pamphlet_0 hb h
  · exfalso; unfold qc_X12_pamphlet at h; rw [qblt_f hb] at h; cases h
theorem qd_X12_airOf_0 : (qwl qc_X12_airOf cX12_airOf (cX12_airOf).data.toList 0 && Nat.ble 16 (cX12_airOf).data.toList.length) = true := by decide +kernel
theorem qd_X12_airOf {pc : Nat} {ins : Instr} {len : Nat} (h : qc_X12_airOf pc = some (ins, len)) : decode cX12_airOf pc = .ok (ins, len) ∧ qok pc ins len = true := by
  by_cases hb : pc < 16
  · exact qwl_b qd_X12_airOf_0 hb h
  · exfalso; unfold qc_X12_airOf at h; rw [qblt_f hb] at h; cases h
theorem qd_X12_air_0 : (qwl qc_X12_air cX12_air (cX12_air).data.toList 0 && Nat.ble 138 (cX12_air).data.toList.length) = true := by decide +kernel
theorem qd_X12_air {pc : Nat} {ins : Instr} {len : Nat} (h : qc_X12_air pc = some (ins, len)) : decode cX12_air pc = .ok (ins, len) ∧ qok pc ins len = true := by
  by_cases hb : pc < 138
  · exact qwl_b qd_X12_air_0 hb h
  · exfalso; unfold qc_X12_air at h; rw [qblt_f hb] at h; cases h
theorem qd_X12_isSquare_0 : (qwl qc_X12_isSquare cX12_isSquare (cX12_isSquare).data.toList 0 && Nat.ble 8 (cX12_isSquare).data.toList.length) = true := by decide +kernel
theorem qd_X12_isSquare {pc : Nat} {ins : Instr} {len : Nat} (h : qc_X12_isSquare pc = some (ins, len)) : decode cX12_isSquare pc = .ok (ins, len) ∧ qok pc ins len = true := by
  by_cases hb : pc < 8
  · exact qwl_b qd_X12_isSquare_0 hb h
  · exfalso; unfold qc_X12_isSquare at h; rw [qblt_f hb] at h; cases h
theorem qd_X12_piece_0 : (qwl qc_X12_piece cX12_piece (cX12_piece).data.toList 0 && Nat.ble 35 (cX12_piece).data.toList.length) = true := by decide +kernel
theorem qd_X12_piece {pc : Nat} {ins : Instr} {len : Nat} (h : qc_X12_piece pc = some (ins, len)) : decode cX12_piece pc = .ok (ins, len) ∧ qok pc ins len = true := by
  by_cases hb : pc < 35
  · exact qwl_b qd_X12_piece_0 hb h
  · exfalso; unfold qc_X12_piece at h; rw [qblt_f hb] at h; cases h
theorem qd_X12_stick_0 : (qwl qc_X12_stick cX12_stick (cX12_stick).data.toList 0 && Nat.ble 18 (cX12_stick).data.toList.length) = true := by decide +kernel
theorem qd_X12_stick {pc : Nat} {ins : Instr} {len : Nat} (h : qc_X12_stick pc = some (ins, len)) : decode cX12_stick pc = .ok (ins, len) ∧ qok pc ins len = true := by
  by_cases hb : pc < 18
  · exact qwl_b qd_X12_stick_0 hb h
  · exfalso; unfold qc_X12_stick at h; rw [qblt_f hb] at h; cases h
theorem qd_X12_move_0 : (qwl qc_X12_move cX12_move (cX12_move).data.toList 0 && Nat.ble 139 (cX12_move).data.toList.length) = true := by decide +kernel
theorem qd_X12_move {pc : Nat} {ins : Instr} {len : Nat} (h : qc_X12_move pc = some (ins, len)) : decode cX12_move pc = .ok (ins, len) ∧ qok pc ins len = true := by
  by_cases hb : pc < 139
  · exact qwl_b qd_X12_move_0 hb h
  · exfalso; unfold qc_X12_move at h; rw [qblt_f hb] at h; cases h
theorem qd_X12_board_0 : (qwl qc_X12_board cX12_board (cX12_board).data.toList 0 && Nat.ble 130 (cX12_board).data.toList.length) = true := by decide +kernel
theorem qd_X12_board {pc : Nat} {ins : Instr} {len : Nat} (h : qc_X12_board pc = some (ins, len)) : decode cX12_board pc = .ok (ins, len) ∧ qok pc ins len = true := by
  by_cases hb : pc < 130
  · exact qwl_b qd_X12_board_0 hb h
  · exfalso; unfold qc_X12_board at h; rw [qblt_f hb] at h; cases h
theorem qd_X12_isMaster_0 : (qwl qc_X12_isMaster cX12_isMaster (cX12_isMaster).data.toList 0 && Nat.ble 12 (cX12_isMaster).data.toList.length) = true := by decide +kernel
theorem qd_X12_isMaster {pc : Nat} {ins : Instr} {len : Nat} (h : qc_X12_isMaster pc = some (ins, len)) : decode cX12_isMaster pc = .ok (ins, len) ∧ qok pc ins len = true := by
  by_cases hb : pc < 12
  · exact qwl_b qd_X12_isMaster_0 hb h
  · exfalso; unfold qc_X12_isMaster at h; rw [qblt_f hb] at h; cases h
theorem qd_X12_master_0 : (qwl qc_X12_master cX12_master (cX12_master).data.toList 0 && Nat.ble 127 (cX12_master).data.toList.length) = true := by decide +kernel
theorem qd_X12_master {pc : Nat} {ins : Instr} {len : Nat} (h : qc_X12_master pc = some (ins, len)) : decode cX12_master pc = .ok (ins, len) ∧ qok pc ins len = true := by
  by_cases hb : pc < 127
  · exact qwl_b qd_X12_master_0 hb h
  · exfalso; unfold qc_X12_master at h; rw [qblt_f hb] at h; cases h
theorem qd_X12_was_0 : (qwl qc_X12_was cX12_was (cX12_was).data.toList 0 && Nat.ble 135 (cX12_was).data.toList.length) = true := by decide +kernel
theorem qd_X12_was {pc : Nat} {ins : Instr} {len : Nat} (h : qc_X12_was pc = some (ins, len)) : decode cX12_was pc = .ok (ins, len) ∧ qok pc ins len = true := by
  by_cases hb : pc < 135
  · exact qwl_b qd_X12_was_0 hb h
  · exfalso; unfold qc_X12_was at h; rw [qblt_f hb] at h; cases h
theorem qd_X12_habit_0 : (qwl qc_X12_habit cX12_habit (cX12_habit).data.toList 0 && Nat.ble 42 (cX12_habit).data.toList.length) = true := by decide +kernel
theorem qd_X12_habit {pc : Nat} {ins : Instr} {len : Nat} (h : qc_X12_habit pc = some (ins, len)) : decode cX12_habit pc = .ok (ins, len) ∧ qok pc ins len = true := by
  by_cases hb : pc < 42
  · exact qwl_b qd_X12_habit_0 hb h
  · exfalso; unfold qc_X12_habit at h; rw [qblt_f hb] at h; cases h
theorem qd_X12_night_0 : (qwl qc_X12_night cX12_night (cX12_night).data.toList 0 && Nat.ble 130 (cX12_night).data.toList.length) = true := by decide +kernel
theorem qd_X12_night {pc : Nat} {ins : Instr} {len : Nat} (h : qc_X12_night pc = some (ins, len)) : decode cX12_night pc = .ok (ins, len) ∧ qok pc ins len = true := by
  by_cases hb : pc < 130
  · exact qwl_b qd_X12_night_0 hb h
  · exfalso; unfold qc_X12_night at h; rw [qblt_f hb] at h; cases h
theorem qd_X12_mayBe_0 : (qwl qc_X12_mayBe cX12_mayBe (cX12_mayBe).data.toList 0 && Nat.ble 106 (cX12_mayBe).data.toList.length) = true := by decide +kernel
theorem qd_X12_mayBe {pc : Nat} {ins : Instr} {len : Nat} (h : qc_X12_mayBe pc = some (ins, len)) : decode cX12_mayBe pc = .ok (ins, len) ∧ qok pc ins len = true := by
  by_cases hb : pc < 106
  · exact qwl_b qd_X12_mayBe_0 hb h
  · exfalso; unfold qc_X12_mayBe at h; rw [qblt_f hb] at h; cases h
theorem qd_X12_weight_0 : (qwl qc_X12_weight cX12_weight (cX12_weight).data.toList 0 && Nat.ble 144 (cX12_weight).data.toList.length) = true := by decide +kernel
theorem qd_X12_weight {pc : Nat} {ins : Instr} {len : Nat} (h : qc_X12_weight pc = some (ins, len)) : decode cX12_weight pc = .ok (ins, len) ∧ qok pc ins len = true := by
  by_cases hb : pc < 144
  · exact qwl_b qd_X12_weight_0 hb h
  · exfalso; unfold qc_X12_weight at h; rw [qblt_f hb] at h; cases h
theorem qd_X12_who_0 : (qwl qc_X12_who cX12_who (cX12_who).data.toList 0 && Nat.ble 101 (cX12_who).data.toList.length) = true := by decide +kernel
theorem qd_X12_who {pc : Nat} {ins : Instr} {len : Nat} (h : qc_X12_who pc = some (ins, len)) : decode cX12_who pc = .ok (ins, len) ∧ qok pc ins len = true := by
  by_cases hb : pc < 101
  · exact qwl_b qd_X12_who_0 hb h
  · exfalso; unfold qc_X12_who at h; rw [qblt_f hb] at h; cases h
theorem qd_X12_all_0 : (qwl qc_X12_all cX12_all (cX12_all).data.toList 0 && Nat.ble 272 (cX12_all).data.toList.length) = true := by decide +kernel
theorem qd_X12_all {pc : Nat} {ins : Instr} {len : Nat} (h : qc_X12_all pc = some (ins, len)) : decode cX12_all pc = .ok (ins, len) ∧ qok pc ins len = true := by
  by_cases hb : pc < 272
  · exact qwl_b qd_X12_all_0 hb h
  · exfalso; unfold qc_X12_all at h; rw [qblt_f hb] at h; cases h
theorem qd_X12_cam_0 : (qwl qc_X12_cam cX12_cam (cX12_cam).data.toList 0 && Nat.ble 97 (cX12_cam).data.toList.length) = true := by decide +kernel
theorem qd_X12_cam {pc : Nat} {ins : Instr} {len : Nat} (h : qc_X12_cam pc = some (ins, len)) : decode cX12_cam pc = .ok (ins, len) ∧ qok pc ins len = true := by
  by_cases hb : pc < 97
  · exact qwl_b qd_X12_cam_0 hb h
  · exfalso; unfold qc_X12_cam at h; rw [qblt_f hb] at h; cases h
theorem qd_X12_game_0 : (qwl qc_X12_game cX12_game (cX12_game).data.toList 0 && Nat.ble 60 (cX12_game).data.toList.length) = true := by decide +kernel
theorem qd_X12_game {pc : Nat} {ins : Instr} {len : Nat} (h : qc_X12_game pc = some (ins, len)) : decode cX12_game pc = .ok (ins, len) ∧ qok pc ins len = true := by
  by_cases hb : pc < 60
  · exact qwl_b qd_X12_game_0 hb h
  · exfalso; unfold qc_X12_game at h; rw [qblt_f hb] at h; cases h
theorem qd_X12_answer_0 : (qwl qc_X12_answer cX12_answer (cX12_answer).data.toList 0 && Nat.ble 37 (cX12_answer).data.toList.length) = true := by decide +kernel
theorem qd_X12_answer {pc : Nat} {ins : Instr} {len : Nat} (h : qc_X12_answer pc = some (ins, len)) : decode cX12_answer pc = .ok (ins, len) ∧ qok pc ins len = true := by
  by_cases hb : pc < 37
  · exact qwl_b qd_X12_answer_0 hb h
  · exfalso; unfold qc_X12_answer at h; rw [qblt_f hb] at h; cases h
theorem qd_X12_alone_0 : (qwl qc_X12_alone cX12_alone (cX12_alone).data.toList 0 && Nat.ble 95 (cX12_alone).data.toList.length) = true := by decide +kernel
theorem qd_X12_alone {pc : Nat} {ins : Instr} {len : Nat} (h : qc_X12_alone pc = some (ins, len)) : decode cX12_alone pc = .ok (ins, len) ∧ qok pc ins len = true := by
  by_cases hb : pc < 95
  · exact qwl_b qd_X12_alone_0 hb h
  · exfalso; unfold qc_X12_alone at h; rw [qblt_f hb] at h; cases h
theorem qd_X12_areClaims_0 : (qwl qc_X12_areClaims cX12_areClaims (cX12_areClaims).data.toList 0 && Nat.ble 9 (cX12_areClaims).data.toList.length) = true := by decide +kernel
theorem qd_X12_areClaims {pc : Nat} {ins : Instr} {len : Nat} (h : qc_X12_areClaims pc = some (ins, len)) : decode cX12_areClaims pc = .ok (ins, len) ∧ qok pc ins len = true := by
  by_cases hb : pc < 9
  · exact qwl_b qd_X12_areClaims_0 hb h
  · exfalso; unfold qc_X12_areClaims at h; rw [qblt_f hb] at h; cases h
theorem qd_X12_many_0 : (qwl qc_X12_many cX12_many (cX12_many).data.toList 0 && Nat.ble 26 (cX12_many).data.toList.length) = true := by decide +kernel
theorem qd_X12_many {pc : Nat} {ins : Instr} {len : Nat} (h : qc_X12_many pc = some (ins, len)) : decode cX12_many pc = .ok (ins, len) ∧ qok pc ins len = true := by
  by_cases hb : pc < 26
  · exact qwl_b qd_X12_many_0 hb h
  · exfalso; unfold qc_X12_many at h; rw [qblt_f hb] at h; cases h
theorem qd_X12_writer_0 : (qwl qc_X12_writer cX12_writer (cX12_writer).data.toList 0 && Nat.ble 65 (cX12_writer).data.toList.length) = true := by decide +kernel
theorem qd_X12_writer {pc : Nat} {ins : Instr} {len : Nat} (h : qc_X12_writer pc = some (ins, len)) : decode cX12_writer pc = .ok (ins, len) ∧ qok pc ins len = true := by
  by_cases hb : pc < 65
  · exact qwl_b qd_X12_writer_0 hb h
  · exfalso; unfold qc_X12_writer at h; rw [qblt_f hb] at h; cases h
theorem qd_X12_truth_0 : (qwl qc_X12_truth cX12_truth (cX12_truth).data.toList 0 && Nat.ble 16 (cX12_truth).data.toList.length) = true := by decide +kernel
theorem qd_X12_truth {pc : Nat} {ins : Instr} {len : Nat} (h : qc_X12_truth pc = some (ins, len)) : decode cX12_truth pc = .ok (ins, len) ∧ qok pc ins len = true := by
  by_cases hb : pc < 16
  · exact qwl_b qd_X12_truth_0 hb h
  · exfalso; unfold qc_X12_truth at h; rw [qblt_f hb] at h; cases h
theorem qd_X12_isAhead_0 : (qwl qc_X12_isAhead cX12_isAhead (cX12_isAhead).data.toList 0 && Nat.ble 41 (cX12_isAhead).data.toList.length) = true := by decide +kernel
theorem qd_X12_isAhead {pc : Nat} {ins : Instr} {len : Nat} (h : qc_X12_isAhead pc = some (ins, len)) : decode cX12_isAhead pc = .ok (ins, len) ∧ qok pc ins len = true := by
  by_cases hb : pc < 41
  · exact qwl_b qd_X12_isAhead_0 hb h
  · exfalso; unfold qc_X12_isAhead at h; rw [qblt_f hb] at h; cases h
theorem qd_X12_first_0 : (qwl qc_X12_first cX12_first (cX12_first).data.toList 0 && Nat.ble 62 (cX12_first).data.toList.length) = true := by decide +kernel
theorem qd_X12_first {pc : Nat} {ins : Instr} {len : Nat} (h : qc_X12_first pc = some (ins, len)) : decode cX12_first pc = .ok (ins, len) ∧ qok pc ins len = true := by
  by_cases hb : pc < 62
  · exact qwl_b qd_X12_first_0 hb h
  · exfalso; unfold qc_X12_first at h; rw [qblt_f hb] at h; cases h
theorem qd_X12_copied_0 : (qwl qc_X12_copied cX12_copied (cX12_copied).data.toList 0 && Nat.ble 100 (cX12_copied).data.toList.length) = true := by decide +kernel
theorem qd_X12_copied {pc : Nat} {ins : Instr} {len : Nat} (h : qc_X12_copied pc = some (ins, len)) : decode cX12_copied pc = .ok (ins, len) ∧ qok pc ins len = true := by
  by_cases hb : pc < 100
  · exact qwl_b qd_X12_copied_0 hb h
  · exfalso; unfold qc_X12_copied at h; rw [qblt_f hb] at h; cases h
theorem qd_X12_story_0 : (qwl qc_X12_story cX12_story (cX12_story).data.toList 0 && Nat.ble 131 (cX12_story).data.toList.length) = true := by decide +kernel
theorem qd_X12_story {pc : Nat} {ins : Instr} {len : Nat} (h : qc_X12_story pc = some (ins, len)) : decode cX12_story pc = .ok (ins, len) ∧ qok pc ins len = true := by
  by_cases hb : pc < 131
  · exact qwl_b qd_X12_story_0 hb h
  · exfalso; unfold qc_X12_story at h; rw [qblt_f hb] at h; cases h
theorem qd_J6_lowestOneBit_0f7a4_0 : (qwl qc_J6_lowestOneBit_0f7a4 cJ6_lowestOneBit_0f7a4 (cJ6_lowestOneBit_0f7a4).data.toList 0 && Nat.ble 5 (cJ6_lowestOneBit_0f7a4).data.toList.length) = true := by decide +kernel
theorem qd_J6_lowestOneBit_0f7a4 {pc : Nat} {ins : Instr} {len : Nat} (h : qc_J6_lowestOneBit_0f7a4 pc = some (ins, len)) : decode cJ6_lowestOneBit_0f7a4 pc = .ok (ins, len) ∧ qok pc ins len = true := by
  by_cases hb : pc < 5
  · exact qwl_b qd_J6_lowestOneBit_0f7a4_0 hb h
  · exfalso; unfold qc_J6_lowestOneBit_0f7a4 at h; rw [qblt_f hb] at h; cases h
theorem qd_J6_numberOfTrailingZeros_0f7a4_0 : (qwl qc_J6_numberOfTrailingZeros_0f7a4 cJ6_numberOfTrailingZeros_0f7a4 (cJ6_numberOfTrailingZeros_0f7a4).data.toList 0 && Nat.ble 80 (cJ6_numberOfTrailingZeros_0f7a4).data.toList.length) = true := by decide +kernel
theorem qd_J6_numberOfTrailingZeros_0f7a4 {pc : Nat} {ins : Instr} {len : Nat} (h : qc_J6_numberOfTrailingZeros_0f7a4 pc = some (ins, len)) : decode cJ6_numberOfTrailingZeros_0f7a4 pc = .ok (ins, len) ∧ qok pc ins len = true := by
  by_cases hb : pc < 80
  · exact qwl_b qd_J6_numberOfTrailingZeros_0f7a4_0 hb h
  · exfalso; unfold qc_J6_numberOfTrailingZeros_0f7a4 at h; rw [qblt_f hb] at h; cases h
theorem qd_J6_bitCount_0f7a4_0 : (qwl qc_J6_bitCount_0f7a4 cJ6_bitCount_0f7a4 (cJ6_bitCount_0f7a4).data.toList 0 && Nat.ble 53 (cJ6_bitCount_0f7a4).data.toList.length) = true := by decide +kernel
theorem qd_J6_bitCount_0f7a4 {pc : Nat} {ins : Instr} {len : Nat} (h : qc_J6_bitCount_0f7a4 pc = some (ins, len)) : decode cJ6_bitCount_0f7a4 pc = .ok (ins, len) ∧ qok pc ins len = true := by
  by_cases hb : pc < 53
  · exact qwl_b qd_J6_bitCount_0f7a4_0 hb h
  · exfalso; unfold qc_J6_bitCount_0f7a4 at h; rw [qblt_f hb] at h; cases h
theorem qd_J13_numberOfTrailingZeros_95d88_0 : (qwl qc_J13_numberOfTrailingZeros_95d88 cJ13_numberOfTrailingZeros_95d88 (cJ13_numberOfTrailingZeros_95d88).data.toList 0 && Nat.ble 26 (cJ13_numberOfTrailingZeros_95d88).data.toList.length) = true := by decide +kernel
theorem qd_J13_numberOfTrailingZeros_95d88 {pc : Nat} {ins : Instr} {len : Nat} (h : qc_J13_numberOfTrailingZeros_95d88 pc = some (ins, len)) : decode cJ13_numberOfTrailingZeros_95d88 pc = .ok (ins, len) ∧ qok pc ins len = true := by
  by_cases hb : pc < 26
  · exact qwl_b qd_J13_numberOfTrailingZeros_95d88_0 hb h
  · exfalso; unfold qc_J13_numberOfTrailingZeros_95d88 at h; rw [qblt_f hb] at h; cases h
theorem qd_J13_bitCount_95d88_0 : (qwl qc_J13_bitCount_95d88 cJ13_bitCount_95d88 (cJ13_bitCount_95d88).data.toList 0 && Nat.ble 61 (cJ13_bitCount_95d88).data.toList.length) = true := by decide +kernel
theorem qd_J13_bitCount_95d88 {pc : Nat} {ins : Instr} {len : Nat} (h : qc_J13_bitCount_95d88 pc = some (ins, len)) : decode cJ13_bitCount_95d88 pc = .ok (ins, len) ∧ qok pc ins len = true := by
  by_cases hb : pc < 61
  · exact qwl_b qd_J13_bitCount_95d88_0 hb h
  · exfalso; unfold qc_J13_bitCount_95d88 at h; rw [qblt_f hb] at h; cases h
theorem qd_L_law_0 : (qwl qc_L_law cL_law (cL_law).data.toList 0 && Nat.ble 1618 (cL_law).data.toList.length) = true := by decide +kernel
theorem qd_L_law {pc : Nat} {ins : Instr} {len : Nat} (h : qc_L_law pc = some (ins, len)) : decode cL_law pc = .ok (ins, len) ∧ qok pc ins len = true := by
  by_cases hb : pc < 1618
  · exact qwl_b qd_L_law_0 hb h
  · exfalso; unfold qc_L_law at h; rw [qblt_f hb] at h; cases h
theorem qcd_ok {k pc : Nat} {ins : Instr} {len : Nat} (hk : k < 306) (h : qcd k pc = some (ins, len)) : decode (qby k) pc = .ok (ins, len) ∧ qok pc ins len = true := by
  by_cases hk153 : k < 153
  · skip
    by_cases hk76 : k < 76
    · skip
      by_cases hk38 : k < 38
      · skip
        by_cases hk19 : k < 19
        · skip
          by_cases hk9 : k < 9
          · skip
            by_cases hk4 : k < 4
            · skip
              by_cases hk2 : k < 2
              · skip
                by_cases hk1 : k < 1
                · skip
                  have e : k = 0 := by omega
                  subst e; exact qd_X0_init h
                · skip
                  have e : k = 1 := by omega
                  subst e; exact qd_X0_moveCode h
              · skip
                by_cases hk3 : k < 3
                · skip
                  have e : k = 2 := by omega
                  subst e; exact qd_X0_tell h
                · skip
                  have e : k = 3 := by omega
                  subst e; exact qd_X0_play h
            · skip
              by_cases hk6 : k < 6
              · skip
                by_cases hk5 : k < 5
                · skip
                  have e : k = 4 := by omega
                  subst e; exact qd_X0_factOf h
                · skip
                  have e : k = 5 := by omega
                  subst e; exact qd_X0_emptyGame h
              · skip
                by_cases hk7 : k < 7
                · skip
                  have e : k = 6 := by omega
                  subst e; exact qd_X0_playedAlone h
                · skip
                  by_cases hk8 : k < 8
                  · skip
                    have e : k = 7 := by omega
                    subst e; exact qd_X0_answerTo h
                  · skip
                    have e : k = 8 := by omega
                    subst e; exact qd_X1_init h
          · skip
            by_cases hk14 : k < 14
            · skip
              by_cases hk11 : k < 11
              · skip
                by_cases hk10 : k < 10
                · skip
                  have e : k = 9 := by omega
                  subst e; exact qd_X1_isSquare h
                · skip
                  have e : k = 10 := by omega
                  subst e; exact qd_X1_isMove h
              · skip
                by_cases hk12 : k < 12
                · skip
                  have e : k = 11 := by omega
                  subst e; exact qd_X1_putPiece h
                · skip
                  by_cases hk13 : k < 13
                  · skip
                    have e : k = 12 := by omega
                    subst e; exact qd_X1_putStick h
                  · skip
                    have e : k = 13 := by omega
                    subst e; exact qd_X1_play h
            · skip
              by_cases hk16 : k < 16
              · skip
                by_cases hk15 : k < 15
                · skip
                  have e : k = 14 := by omega
                  subst e; exact qd_X1_factOf h
                · skip
                  have e : k = 15 := by omega
                  subst e; exact qd_X1_countWrong h
              · skip
                by_cases hk17 : k < 17
                · skip
                  have e : k = 16 := by omega
                  subst e; exact qd_X1_countOpen h
                · skip
                  by_cases hk18 : k < 18
                  · skip
                    have e : k = 17 := by omega
                    subst e; exact qd_X2_init h
                  · skip
                    have e : k = 18 := by omega
                    subst e; exact qd_X2_areNeighbours h
        · skip
          by_cases hk28 : k < 28
          · skip
            by_cases hk23 : k < 23
            · skip
              by_cases hk21 : k < 21
              · skip
                by_cases hk20 : k < 20
                · skip
                  have e : k = 19 := by omega
                  subst e; exact qd_X2_isSpace h
                · skip
                  have e : k = 20 := by omega
                  subst e; exact qd_X2_putWorks h
              · skip
                by_cases hk22 : k < 22
                · skip
                  have e : k = 21 := by omega
                  subst e; exact qd_X2_putWall h
                · skip
                  have e : k = 22 := by omega
                  subst e; exact qd_X2_putDoor h
            · skip
              by_cases hk25 : k < 25
              · skip
                by_cases hk24 : k < 24
                · skip
                  have e : k = 23 := by omega
                  subst e; exact qd_X2_shapeNumber h
                · skip
                  have e : k = 24 := by omega
                  subst e; exact qd_X2_worksNow h
              · skip
                by_cases hk26 : k < 26
                · skip
                  have e : k = 25 := by omega
                  subst e; exact qd_X2_freeSpaces h
                · skip
                  by_cases hk27 : k < 27
                  · skip
                    have e : k = 26 := by omega
                    subst e; exact qd_X2_sideOf h
                  · skip
                    have e : k = 27 := by omega
                    subst e; exact qd_X2_shownBy h
          · skip
            by_cases hk33 : k < 33
            · skip
              by_cases hk30 : k < 30
              · skip
                by_cases hk29 : k < 29
                · skip
                  have e : k = 28 := by omega
                  subst e; exact qd_X2_nextTo h
                · skip
                  have e : k = 29 := by omega
                  subst e; exact qd_X2_hangsTogether h
              · skip
                by_cases hk31 : k < 31
                · skip
                  have e : k = 30 := by omega
                  subst e; exact qd_X2_airAtFirst h
                · skip
                  by_cases hk32 : k < 32
                  · skip
                    have e : k = 31 := by omega
                    subst e; exact qd_X2_airLasts h
                  · skip
                    have e : k = 32 := by omega
                    subst e; exact qd_X2_airInAMinute h
            · skip
              by_cases hk35 : k < 35
              · skip
                by_cases hk34 : k < 34
                · skip
                  have e : k = 33 := by omega
                  subst e; exact qd_X3_init h
                · skip
                  have e : k = 34 := by omega
                  subst e; exact qd_X3_poseCount h
              · skip
                by_cases hk36 : k < 36
                · skip
                  have e : k = 35 := by omega
                  subst e; exact qd_X3_follow h
                · skip
                  by_cases hk37 : k < 37
                  · skip
                    have e : k = 36 := by omega
                    subst e; exact qd_X3_stayUnseen h
                  · skip
                    have e : k = 37 := by omega
                    subst e; exact qd_X3_outcome h
      · skip
        by_cases hk57 : k < 57
        · skip
          by_cases hk47 : k < 47
          · skip
            by_cases hk42 : k < 42
            · skip
              by_cases hk40 : k < 40
              · skip
                by_cases hk39 : k < 39
                · skip
                  have e : k = 38 := by omega
                  subst e; exact qd_X3_wayPose h
                · skip
                  have e : k = 39 := by omega
                  subst e; exact qd_X3_findGood h
              · skip
                by_cases hk41 : k < 41
                · skip
                  have e : k = 40 := by omega
                  subst e; exact qd_X3_writeGood h
                · skip
                  have e : k = 41 := by omega
                  subst e; exact qd_X3_readGood h
            · skip
              by_cases hk44 : k < 44
              · skip
                by_cases hk43 : k < 43
                · skip
                  have e : k = 42 := by omega
                  subst e; exact qd_X3_findRow h
                · skip
                  have e : k = 43 := by omega
                  subst e; exact qd_X3_rowFact h
              · skip
                by_cases hk45 : k < 45
                · skip
                  have e : k = 44 := by omega
                  subst e; exact qd_X3_tryRows h
                · skip
                  by_cases hk46 : k < 46
                  · skip
                    have e : k = 45 := by omega
                    subst e; exact qd_X3_tryDoor h
                  · skip
                    have e : k = 46 := by omega
                    subst e; exact qd_X3_keepIfBetter h
          · skip
            by_cases hk52 : k < 52
            · skip
              by_cases hk49 : k < 49
              · skip
                by_cases hk48 : k < 48
                · skip
                  have e : k = 47 := by omega
                  subst e; exact qd_X3_passesDoor h
                · skip
                  have e : k = 48 := by omega
                  subst e; exact qd_X3_findProof h
              · skip
                by_cases hk50 : k < 50
                · skip
                  have e : k = 49 := by omega
                  subst e; exact qd_X3_keepCommon h
                · skip
                  by_cases hk51 : k < 51
                  · skip
                    have e : k = 50 := by omega
                    subst e; exact qd_X3_isSame h
                  · skip
                    have e : k = 51 := by omega
                    subst e; exact qd_X3_isEmpty h
            · skip
              by_cases hk54 : k < 54
              · skip
                by_cases hk53 : k < 53
                · skip
                  have e : k = 52 := by omega
                  subst e; exact qd_X3_howMany h
                · skip
                  have e : k = 53 := by omega
                  subst e; exact qd_X3_least h
              · skip
                by_cases hk55 : k < 55
                · skip
                  have e : k = 54 := by omega
                  subst e; exact qd_X4_init h
                · skip
                  by_cases hk56 : k < 56
                  · skip
                    have e : k = 55 := by omega
                    subst e; exact qd_X4_isYear h
                  · skip
                    have e : k = 56 := by omega
                    subst e; exact qd_X4_isTown h
        · skip
          by_cases hk66 : k < 66
          · skip
            by_cases hk61 : k < 61
            · skip
              by_cases hk59 : k < 59
              · skip
                by_cases hk58 : k < 58
                · skip
                  have e : k = 57 := by omega
                  subst e; exact qd_X4_isStrength h
                · skip
                  have e : k = 58 := by omega
                  subst e; exact qd_X4_isAnswer h
              · skip
                by_cases hk60 : k < 60
                · skip
                  have e : k = 59 := by omega
                  subst e; exact qd_X4_isMaster h
                · skip
                  have e : k = 60 := by omega
                  subst e; exact qd_X4_isNight h
            · skip
              by_cases hk63 : k < 63
              · skip
                by_cases hk62 : k < 62
                · skip
                  have e : k = 61 := by omega
                  subst e; exact qd_X4_addMaster h
                · skip
                  have e : k = 62 := by omega
                  subst e; exact qd_X4_tellStay h
              · skip
                by_cases hk64 : k < 64
                · skip
                  have e : k = 63 := by omega
                  subst e; exact qd_X4_putHabit h
                · skip
                  by_cases hk65 : k < 65
                  · skip
                    have e : k = 64 := by omega
                    subst e; exact qd_X4_addNight h
                  · skip
                    have e : k = 65 := by omega
                    subst e; exact qd_X4_guessOne h
          · skip
            by_cases hk71 : k < 71
            · skip
              by_cases hk68 : k < 68
              · skip
                by_cases hk67 : k < 67
                · skip
                  have e : k = 66 := by omega
                  subst e; exact qd_X4_guessRun h
                · skip
                  have e : k = 67 := by omega
                  subst e; exact qd_X4_startWeights h
              · skip
                by_cases hk69 : k < 69
                · skip
                  have e : k = 68 := by omega
                  subst e; exact qd_X4_multiplyWeights h
                · skip
                  by_cases hk70 : k < 70
                  · skip
                    have e : k = 69 := by omega
                    subst e; exact qd_X4_shrinkWeights h
                  · skip
                    have e : k = 70 := by omega
                    subst e; exact qd_X4_oddsOf h
            · skip
              by_cases hk73 : k < 73
              · skip
                by_cases hk72 : k < 72
                · skip
                  have e : k = 71 := by omega
                  subst e; exact qd_X4_weightOf h
                · skip
                  have e : k = 72 := by omega
                  subst e; exact qd_X4_canHaveBeenThere h
              · skip
                by_cases hk74 : k < 74
                · skip
                  have e : k = 73 := by omega
                  subst e; exact qd_X4_gameWeight h
                · skip
                  by_cases hk75 : k < 75
                  · skip
                    have e : k = 74 := by omega
                    subst e; exact qd_X5_init h
                  · skip
                    have e : k = 75 := by omega
                    subst e; exact qd_X5_learn h
    · skip
      by_cases hk114 : k < 114
      · skip
        by_cases hk95 : k < 95
        · skip
          by_cases hk85 : k < 85
          · skip
            by_cases hk80 : k < 80
            · skip
              by_cases hk78 : k < 78
              · skip
                by_cases hk77 : k < 77
                · skip
                  have e : k = 76 := by omega
                  subst e; exact qd_X5_keep h
                · skip
                  have e : k = 77 := by omega
                  subst e; exact qd_X5_checkReason h
              · skip
                by_cases hk79 : k < 79
                · skip
                  have e : k = 78 := by omega
                  subst e; exact qd_X5_checkChoice h
                · skip
                  have e : k = 79 := by omega
                  subst e; exact qd_X5_checkCondition h
            · skip
              by_cases hk82 : k < 82
              · skip
                by_cases hk81 : k < 81
                · skip
                  have e : k = 80 := by omega
                  subst e; exact qd_X5_checkComparison h
                · skip
                  have e : k = 81 := by omega
                  subst e; exact qd_X5_checkSum h
              · skip
                by_cases hk83 : k < 83
                · skip
                  have e : k = 82 := by omega
                  subst e; exact qd_X5_checkUnit h
                · skip
                  by_cases hk84 : k < 84
                  · skip
                    have e : k = 83 := by omega
                    subst e; exact qd_X5_putFacts h
                  · skip
                    have e : k = 84 := by omega
                    subst e; exact qd_X5_reasonCount h
          · skip
            by_cases hk90 : k < 90
            · skip
              by_cases hk87 : k < 87
              · skip
                by_cases hk86 : k < 86
                · skip
                  have e : k = 85 := by omega
                  subst e; exact qd_X5_weigh h
                · skip
                  have e : k = 86 := by omega
                  subst e; exact qd_X5_code h
              · skip
                by_cases hk88 : k < 88
                · skip
                  have e : k = 87 := by omega
                  subst e; exact qd_X5_takes h
                · skip
                  by_cases hk89 : k < 89
                  · skip
                    have e : k = 88 := by omega
                    subst e; exact qd_X5_choiceHolds h
                  · skip
                    have e : k = 89 := by omega
                    subst e; exact qd_X5_conditionHolds h
            · skip
              by_cases hk92 : k < 92
              · skip
                by_cases hk91 : k < 91
                · skip
                  have e : k = 90 := by omega
                  subst e; exact qd_X5_comparisonHolds h
                · skip
                  have e : k = 91 := by omega
                  subst e; exact qd_X5_addUp h
              · skip
                by_cases hk93 : k < 93
                · skip
                  have e : k = 92 := by omega
                  subst e; exact qd_X5_takeUnit h
                · skip
                  by_cases hk94 : k < 94
                  · skip
                    have e : k = 93 := by omega
                    subst e; exact qd_X6_init h
                  · skip
                    have e : k = 94 := by omega
                    subst e; exact qd_X6_findFor h
        · skip
          by_cases hk104 : k < 104
          · skip
            by_cases hk99 : k < 99
            · skip
              by_cases hk97 : k < 97
              · skip
                by_cases hk96 : k < 96
                · skip
                  have e : k = 95 := by omega
                  subst e; exact qd_X6_findSets h
                · skip
                  have e : k = 96 := by omega
                  subst e; exact qd_X6_nextOfAsMany h
              · skip
                by_cases hk98 : k < 98
                · skip
                  have e : k = 97 := by omega
                  subst e; exact qd_X6_findMoves h
                · skip
                  have e : k = 98 := by omega
                  subst e; exact qd_X6_isMove h
            · skip
              by_cases hk101 : k < 101
              · skip
                by_cases hk100 : k < 100
                · skip
                  have e : k = 99 := by omega
                  subst e; exact qd_X6_howMany h
                · skip
                  have e : k = 100 := by omega
                  subst e; exact qd_X6_setOf h
              · skip
                by_cases hk102 : k < 102
                · skip
                  have e : k = 101 := by omega
                  subst e; exact qd_X6_spread h
                · skip
                  by_cases hk103 : k < 103
                  · skip
                    have e : k = 102 := by omega
                    subst e; exact qd_X6_spreadOne h
                  · skip
                    have e : k = 103 := by omega
                    subst e; exact qd_X6_findUnseen h
          · skip
            by_cases hk109 : k < 109
            · skip
              by_cases hk106 : k < 106
              · skip
                by_cases hk105 : k < 105
                · skip
                  have e : k = 104 := by omega
                  subst e; exact qd_X6_areAllSeen h
                · skip
                  have e : k = 105 := by omega
                  subst e; exact qd_X6_putRow h
              · skip
                by_cases hk107 : k < 107
                · skip
                  have e : k = 106 := by omega
                  subst e; exact qd_X7_init h
                · skip
                  by_cases hk108 : k < 108
                  · skip
                    have e : k = 107 := by omega
                    subst e; exact qd_X7_learn h
                  · skip
                    have e : k = 108 := by omega
                    subst e; exact qd_X7_learnStep h
            · skip
              by_cases hk111 : k < 111
              · skip
                by_cases hk110 : k < 110
                · skip
                  have e : k = 109 := by omega
                  subst e; exact qd_X7_isOfADoor h
                · skip
                  have e : k = 110 := by omega
                  subst e; exact qd_X7_stepCount h
              · skip
                by_cases hk112 : k < 112
                · skip
                  have e : k = 111 := by omega
                  subst e; exact qd_X7_perform h
                · skip
                  by_cases hk113 : k < 113
                  · skip
                    have e : k = 112 := by omega
                    subst e; exact qd_X7_takeStep h
                  · skip
                    have e : k = 113 := by omega
                    subst e; exact qd_X7_viewNow h
      · skip
        by_cases hk133 : k < 133
        · skip
          by_cases hk123 : k < 123
          · skip
            by_cases hk118 : k < 118
            · skip
              by_cases hk116 : k < 116
              · skip
                by_cases hk115 : k < 115
                · skip
                  have e : k = 114 := by omega
                  subst e; exact qd_X7_secondsOf h
                · skip
                  have e : k = 115 := by omega
                  subst e; exact qd_X7_viewOf h
              · skip
                by_cases hk117 : k < 117
                · skip
                  have e : k = 116 := by omega
                  subst e; exact qd_X7_allSeconds h
                · skip
                  have e : k = 117 := by omega
                  subst e; exact qd_X7_viewIn h
            · skip
              by_cases hk120 : k < 120
              · skip
                by_cases hk119 : k < 119
                · skip
                  have e : k = 118 := by omega
                  subst e; exact qd_X7_factOf h
                · skip
                  have e : k = 119 := by omega
                  subst e; exact qd_X8_init h
              · skip
                by_cases hk121 : k < 121
                · skip
                  have e : k = 120 := by omega
                  subst e; exact qd_X8_put h
                · skip
                  by_cases hk122 : k < 122
                  · skip
                    have e : k = 121 := by omega
                    subst e; exact qd_X8_append h
                  · skip
                    have e : k = 122 := by omega
                    subst e; exact qd_X8_multiplyBy h
          · skip
            by_cases hk128 : k < 128
            · skip
              by_cases hk125 : k < 125
              · skip
                by_cases hk124 : k < 124
                · skip
                  have e : k = 123 := by omega
                  subst e; exact qd_X8_divideBy h
                · skip
                  have e : k = 124 := by omega
                  subst e; exact qd_X8_dropEmptyParts h
              · skip
                by_cases hk126 : k < 126
                · skip
                  have e : k = 125 := by omega
                  subst e; exact qd_X8_add h
                · skip
                  by_cases hk127 : k < 127
                  · skip
                    have e : k = 126 := by omega
                    subst e; exact qd_X8_partAt h
                  · skip
                    have e : k = 127 := by omega
                    subst e; exact qd_X8_against h
            · skip
              by_cases hk130 : k < 130
              · skip
                by_cases hk129 : k < 129
                · skip
                  have e : k = 128 := by omega
                  subst e; exact qd_X9_init h
                · skip
                  have e : k = 129 := by omega
                  subst e; exact qd_X9_hasRoomFor h
              · skip
                by_cases hk131 : k < 131
                · skip
                  have e : k = 130 := by omega
                  subst e; exact qd_X9_append h
                · skip
                  by_cases hk132 : k < 132
                  · skip
                    have e : k = 131 := by omega
                    subst e; exact qd_X9_cutTo h
                  · skip
                    have e : k = 132 := by omega
                    subst e; exact qd_X9_forgetFault h
        · skip
          by_cases hk143 : k < 143
          · skip
            by_cases hk138 : k < 138
            · skip
              by_cases hk135 : k < 135
              · skip
                by_cases hk134 : k < 134
                · skip
                  have e : k = 133 := by omega
                  subst e; exact qd_X9_faultOf h
                · skip
                  have e : k = 134 := by omega
                  subst e; exact qd_X9_readTokens h
              · skip
                by_cases hk136 : k < 136
                · skip
                  have e : k = 135 := by omega
                  subst e; exact qd_X9_readToken h
                · skip
                  by_cases hk137 : k < 137
                  · skip
                    have e : k = 136 := by omega
                    subst e; exact qd_X9_signAt h
                  · skip
                    have e : k = 137 := by omega
                    subst e; exact qd_X9_isLetter h
            · skip
              by_cases hk140 : k < 140
              · skip
                by_cases hk139 : k < 139
                · skip
                  have e : k = 138 := by omega
                  subst e; exact qd_X9_isDigit h
                · skip
                  have e : k = 139 := by omega
                  subst e; exact qd_X9_letterEnd h
              · skip
                by_cases hk141 : k < 141
                · skip
                  have e : k = 140 := by omega
                  subst e; exact qd_X9_digitEnd h
                · skip
                  by_cases hk142 : k < 142
                  · skip
                    have e : k = 141 := by omega
                    subst e; exact qd_X9_numberCode h
                  · skip
                    have e : k = 142 := by omega
                    subst e; exact qd_X9_wordCode h
          · skip
            by_cases hk148 : k < 148
            · skip
              by_cases hk145 : k < 145
              · skip
                by_cases hk144 : k < 144
                · skip
                  have e : k = 143 := by omega
                  subst e; exact qd_X9_isSame h
                · skip
                  have e : k = 144 := by omega
                  subst e; exact qd_X9_addToken h
              · skip
                by_cases hk146 : k < 146
                · skip
                  have e : k = 145 := by omega
                  subst e; exact qd_X9_code h
                · skip
                  by_cases hk147 : k < 147
                  · skip
                    have e : k = 146 := by omega
                    subst e; exact qd_X9_tokenNumber h
                  · skip
                    have e : k = 147 := by omega
                    subst e; exact qd_X9_copyCodes h
            · skip
              by_cases hk150 : k < 150
              · skip
                by_cases hk149 : k < 149
                · skip
                  have e : k = 148 := by omega
                  subst e; exact qd_X9_word h
                · skip
                  have e : k = 149 := by omega
                  subst e; exact qd_X9_next h
              · skip
                by_cases hk151 : k < 151
                · skip
                  have e : k = 150 := by omega
                  subst e; exact qd_X9_takes h
                · skip
                  by_cases hk152 : k < 152
                  · skip
                    have e : k = 151 := by omega
                    subst e; exact qd_X9_needs h
                  · skip
                    have e : k = 152 := by omega
                    subst e; exact qd_X9_needsNumber h
  · skip
    by_cases hk229 : k < 229
    · skip
      by_cases hk191 : k < 191
      · skip
        by_cases hk172 : k < 172
        · skip
          by_cases hk162 : k < 162
          · skip
            by_cases hk157 : k < 157
            · skip
              by_cases hk155 : k < 155
              · skip
                by_cases hk154 : k < 154
                · skip
                  have e : k = 153 := by omega
                  subst e; exact qd_X9_fail h
                · skip
                  have e : k = 154 := by omega
                  subst e; exact qd_X10_init h
              · skip
                by_cases hk156 : k < 156
                · skip
                  have e : k = 155 := by omega
                  subst e; exact qd_X10_add h
                · skip
                  have e : k = 156 := by omega
                  subst e; exact qd_X10_putTruth h
            · skip
              by_cases hk159 : k < 159
              · skip
                by_cases hk158 : k < 158
                · skip
                  have e : k = 157 := by omega
                  subst e; exact qd_X10_firstWith h
                · skip
                  have e : k = 158 := by omega
                  subst e; exact qd_X10_factOf h
              · skip
                by_cases hk160 : k < 160
                · skip
                  have e : k = 159 := by omega
                  subst e; exact qd_X10_isWriter h
                · skip
                  by_cases hk161 : k < 161
                  · skip
                    have e : k = 160 := by omega
                    subst e; exact qd_X10_wroteBefore h
                  · skip
                    have e : k = 161 := by omega
                    subst e; exact qd_X10_copiedFrom h
          · skip
            by_cases hk167 : k < 167
            · skip
              by_cases hk164 : k < 164
              · skip
                by_cases hk163 : k < 163
                · skip
                  have e : k = 162 := by omega
                  subst e; exact qd_X10_walkLine h
                · skip
                  have e : k = 163 := by omega
                  subst e; exact qd_X11_init h
              · skip
                by_cases hk165 : k < 165
                · skip
                  have e : k = 164 := by omega
                  subst e; exact qd_X11_works h
                · skip
                  by_cases hk166 : k < 166
                  · skip
                    have e : k = 165 := by omega
                    subst e; exact qd_X11_wall h
                  · skip
                    have e : k = 166 := by omega
                    subst e; exact qd_X11_door h
            · skip
              by_cases hk169 : k < 169
              · skip
                by_cases hk168 : k < 168
                · skip
                  have e : k = 167 := by omega
                  subst e; exact qd_X11_feed h
                · skip
                  have e : k = 168 := by omega
                  subst e; exact qd_X11_end h
              · skip
                by_cases hk170 : k < 170
                · skip
                  have e : k = 169 := by omega
                  subst e; exact qd_X11_text h
                · skip
                  by_cases hk171 : k < 171
                  · skip
                    have e : k = 170 := by omega
                    subst e; exact qd_X11_fault h
                  · skip
                    have e : k = 171 := by omega
                    subst e; exact qd_X11_poses h
        · skip
          by_cases hk181 : k < 181
          · skip
            by_cases hk176 : k < 176
            · skip
              by_cases hk174 : k < 174
              · skip
                by_cases hk173 : k < 173
                · skip
                  have e : k = 172 := by omega
                  subst e; exact qd_X11_seen h
                · skip
                  have e : k = 173 := by omega
                  subst e; exact qd_X11_run h
              · skip
                by_cases hk175 : k < 175
                · skip
                  have e : k = 174 := by omega
                  subst e; exact qd_X11_hide h
                · skip
                  have e : k = 175 := by omega
                  subst e; exact qd_X11_way h
            · skip
              by_cases hk178 : k < 178
              · skip
                by_cases hk177 : k < 177
                · skip
                  have e : k = 176 := by omega
                  subst e; exact qd_X11_order h
                · skip
                  have e : k = 177 := by omega
                  subst e; exact qd_X11_proof h
              · skip
                by_cases hk179 : k < 179
                · skip
                  have e : k = 178 := by omega
                  subst e; exact qd_X11_reason h
                · skip
                  by_cases hk180 : k < 180
                  · skip
                    have e : k = 179 := by omega
                    subst e; exact qd_X11_pamphlet h
                  · skip
                    have e : k = 180 := by omega
                    subst e; exact qd_X11_air h
          · skip
            by_cases hk186 : k < 186
            · skip
              by_cases hk183 : k < 183
              · skip
                by_cases hk182 : k < 182
                · skip
                  have e : k = 181 := by omega
                  subst e; exact qd_X11_piece h
                · skip
                  have e : k = 182 := by omega
                  subst e; exact qd_X11_stick h
              · skip
                by_cases hk184 : k < 184
                · skip
                  have e : k = 183 := by omega
                  subst e; exact qd_X11_move h
                · skip
                  by_cases hk185 : k < 185
                  · skip
                    have e : k = 184 := by omega
                    subst e; exact qd_X11_board h
                  · skip
                    have e : k = 185 := by omega
                    subst e; exact qd_X11_master h
            · skip
              by_cases hk188 : k < 188
              · skip
                by_cases hk187 : k < 187
                · skip
                  have e : k = 186 := by omega
                  subst e; exact qd_X11_was h
                · skip
                  have e : k = 187 := by omega
                  subst e; exact qd_X11_habit h
              · skip
                by_cases hk189 : k < 189
                · skip
                  have e : k = 188 := by omega
                  subst e; exact qd_X11_night h
                · skip
                  by_cases hk190 : k < 190
                  · skip
                    have e : k = 189 := by omega
                    subst e; exact qd_X11_who h
                  · skip
                    have e : k = 190 := by omega
                    subst e; exact qd_X11_all h
      · skip
        by_cases hk210 : k < 210
        · skip
          by_cases hk200 : k < 200
          · skip
            by_cases hk195 : k < 195
            · skip
              by_cases hk193 : k < 193
              · skip
                by_cases hk192 : k < 192
                · skip
                  have e : k = 191 := by omega
                  subst e; exact qd_X11_cam h
                · skip
                  have e : k = 192 := by omega
                  subst e; exact qd_X11_game h
              · skip
                by_cases hk194 : k < 194
                · skip
                  have e : k = 193 := by omega
                  subst e; exact qd_X11_alone h
                · skip
                  have e : k = 194 := by omega
                  subst e; exact qd_X11_writer h
            · skip
              by_cases hk197 : k < 197
              · skip
                by_cases hk196 : k < 196
                · skip
                  have e : k = 195 := by omega
                  subst e; exact qd_X11_truth h
                · skip
                  have e : k = 196 := by omega
                  subst e; exact qd_X11_first h
              · skip
                by_cases hk198 : k < 198
                · skip
                  have e : k = 197 := by omega
                  subst e; exact qd_X11_story h
                · skip
                  by_cases hk199 : k < 199
                  · skip
                    have e : k = 198 := by omega
                    subst e; exact qd_X11_isChest h
                  · skip
                    have e : k = 199 := by omega
                    subst e; exact qd_X11_isShow h
          · skip
            by_cases hk205 : k < 205
            · skip
              by_cases hk202 : k < 202
              · skip
                by_cases hk201 : k < 201
                · skip
                  have e : k = 200 := by omega
                  subst e; exact qd_X11_isSize h
                · skip
                  have e : k = 201 := by omega
                  subst e; exact qd_X11_isDoorSet h
              · skip
                by_cases hk203 : k < 203
                · skip
                  have e : k = 202 := by omega
                  subst e; exact qd_X11_learnShow h
                · skip
                  by_cases hk204 : k < 204
                  · skip
                    have e : k = 203 := by omega
                    subst e; exact qd_X11_isManTrue h
                  · skip
                    have e : k = 204 := by omega
                    subst e; exact qd_X11_learnFacts h
            · skip
              by_cases hk207 : k < 207
              · skip
                by_cases hk206 : k < 206
                · skip
                  have e : k = 205 := by omega
                  subst e; exact qd_X12_init h
                · skip
                  have e : k = 206 := by omega
                  subst e; exact qd_X12_isIn h
              · skip
                by_cases hk208 : k < 208
                · skip
                  have e : k = 207 := by omega
                  subst e; exact qd_X12_isChest h
                · skip
                  by_cases hk209 : k < 209
                  · skip
                    have e : k = 208 := by omega
                    subst e; exact qd_X12_isSpace h
                  · skip
                    have e : k = 209 := by omega
                    subst e; exact qd_X12_isShow h
        · skip
          by_cases hk219 : k < 219
          · skip
            by_cases hk214 : k < 214
            · skip
              by_cases hk212 : k < 212
              · skip
                by_cases hk211 : k < 211
                · skip
                  have e : k = 210 := by omega
                  subst e; exact qd_X12_isSize h
                · skip
                  have e : k = 211 := by omega
                  subst e; exact qd_X12_bits h
              · skip
                by_cases hk213 : k < 213
                · skip
                  have e : k = 212 := by omega
                  subst e; exact qd_X12_apart h
                · skip
                  have e : k = 213 := by omega
                  subst e; exact qd_X12_areNeighbours h
            · skip
              by_cases hk216 : k < 216
              · skip
                by_cases hk215 : k < 215
                · skip
                  have e : k = 214 := by omega
                  subst e; exact qd_X12_works h
                · skip
                  have e : k = 215 := by omega
                  subst e; exact qd_X12_wall h
              · skip
                by_cases hk217 : k < 217
                · skip
                  have e : k = 216 := by omega
                  subst e; exact qd_X12_isSet h
                · skip
                  by_cases hk218 : k < 218
                  · skip
                    have e : k = 217 := by omega
                    subst e; exact qd_X12_door h
                  · skip
                    have e : k = 218 := by omega
                    subst e; exact qd_X12_isPassage h
          · skip
            by_cases hk224 : k < 224
            · skip
              by_cases hk221 : k < 221
              · skip
                by_cases hk220 : k < 220
                · skip
                  have e : k = 219 := by omega
                  subst e; exact qd_X12_hangs h
                · skip
                  have e : k = 220 := by omega
                  subst e; exact qd_X12_findsPoses h
              · skip
                by_cases hk222 : k < 222
                · skip
                  have e : k = 221 := by omega
                  subst e; exact qd_X12_poses h
                · skip
                  by_cases hk223 : k < 223
                  · skip
                    have e : k = 222 := by omega
                    subst e; exact qd_X12_feed h
                  · skip
                    have e : k = 223 := by omega
                    subst e; exact qd_X12_end h
            · skip
              by_cases hk226 : k < 226
              · skip
                by_cases hk225 : k < 225
                · skip
                  have e : k = 224 := by omega
                  subst e; exact qd_X12_see h
                · skip
                  have e : k = 225 := by omega
                  subst e; exact qd_X12_isLetter h
              · skip
                by_cases hk227 : k < 227
                · skip
                  have e : k = 226 := by omega
                  subst e; exact qd_X12_isDigit h
                · skip
                  by_cases hk228 : k < 228
                  · skip
                    have e : k = 227 := by omega
                    subst e; exact qd_X12_is h
                  · skip
                    have e : k = 228 := by omega
                    subst e; exact qd_X12_showWord h
    · skip
      by_cases hk267 : k < 267
      · skip
        by_cases hk248 : k < 248
        · skip
          by_cases hk238 : k < 238
          · skip
            by_cases hk233 : k < 233
            · skip
              by_cases hk231 : k < 231
              · skip
                by_cases hk230 : k < 230
                · skip
                  have e : k = 229 := by omega
                  subst e; exact qd_X12_word h
                · skip
                  have e : k = 230 := by omega
                  subst e; exact qd_X12_isSign h
              · skip
                by_cases hk232 : k < 232
                · skip
                  have e : k = 231 := by omega
                  subst e; exact qd_X12_next0 h
                · skip
                  have e : k = 232 := by omega
                  subst e; exact qd_X12_bad h
            · skip
              by_cases hk235 : k < 235
              · skip
                by_cases hk234 : k < 234
                · skip
                  have e : k = 233 := by omega
                  subst e; exact qd_X12_need h
                · skip
                  have e : k = 234 := by omega
                  subst e; exact qd_X12_number h
              · skip
                by_cases hk236 : k < 236
                · skip
                  have e : k = 235 := by omega
                  subst e; exact qd_X12_lay h
                · skip
                  by_cases hk237 : k < 237
                  · skip
                    have e : k = 236 := by omega
                    subst e; exact qd_X12_opens h
                  · skip
                    have e : k = 237 := by omega
                    subst e; exact qd_X12_sumUp h
          · skip
            by_cases hk243 : k < 243
            · skip
              by_cases hk240 : k < 240
              · skip
                by_cases hk239 : k < 239
                · skip
                  have e : k = 238 := by omega
                  subst e; exact qd_X12_product h
                · skip
                  have e : k = 239 := by omega
                  subst e; exact qd_X12_unit h
              · skip
                by_cases hk241 : k < 241
                · skip
                  have e : k = 240 := by omega
                  subst e; exact qd_X12_any h
                · skip
                  by_cases hk242 : k < 242
                  · skip
                    have e : k = 241 := by omega
                    subst e; exact qd_X12_every h
                  · skip
                    have e : k = 242 := by omega
                    subst e; exact qd_X12_one h
            · skip
              by_cases hk245 : k < 245
              · skip
                by_cases hk244 : k < 244
                · skip
                  have e : k = 243 := by omega
                  subst e; exact qd_X12_aStep h
                · skip
                  have e : k = 244 := by omega
                  subst e; exact qd_X12_aReason h
              · skip
                by_cases hk246 : k < 246
                · skip
                  have e : k = 245 := by omega
                  subst e; exact qd_X12_text h
                · skip
                  by_cases hk247 : k < 247
                  · skip
                    have e : k = 246 := by omega
                    subst e; exact qd_X12_keepsShow h
                  · skip
                    have e : k = 247 := by omega
                    subst e; exact qd_X12_keepsReasons h
        · skip
          by_cases hk257 : k < 257
          · skip
            by_cases hk252 : k < 252
            · skip
              by_cases hk250 : k < 250
              · skip
                by_cases hk249 : k < 249
                · skip
                  have e : k = 248 := by omega
                  subst e; exact qd_X12_fault h
                · skip
                  have e : k = 249 := by omega
                  subst e; exact qd_X12_sees h
              · skip
                by_cases hk251 : k < 251
                · skip
                  have e : k = 250 := by omega
                  subst e; exact qd_X12_through h
                · skip
                  have e : k = 251 := by omega
                  subst e; exact qd_X12_begins h
            · skip
              by_cases hk254 : k < 254
              · skip
                by_cases hk253 : k < 253
                · skip
                  have e : k = 252 := by omega
                  subst e; exact qd_X12_does h
                · skip
                  have e : k = 253 := by omega
                  subst e; exact qd_X12_shows h
              · skip
                by_cases hk255 : k < 255
                · skip
                  have e : k = 254 := by omega
                  subst e; exact qd_X12_seen h
                · skip
                  by_cases hk256 : k < 256
                  · skip
                    have e : k = 255 := by omega
                    subst e; exact qd_X12_run h
                  · skip
                    have e : k = 256 := by omega
                    subst e; exact qd_X12_isMove h
          · skip
            by_cases hk262 : k < 262
            · skip
              by_cases hk259 : k < 259
              · skip
                by_cases hk258 : k < 258
                · skip
                  have e : k = 257 := by omega
                  subst e; exact qd_X12_hides h
                · skip
                  have e : k = 258 := by omega
                  subst e; exact qd_X12_hide h
              · skip
                by_cases hk260 : k < 260
                · skip
                  have e : k = 259 := by omega
                  subst e; exact qd_X12_isGoing h
                · skip
                  by_cases hk261 : k < 261
                  · skip
                    have e : k = 260 := by omega
                    subst e; exact qd_X12_leadsBack h
                  · skip
                    have e : k = 261 := by omega
                    subst e; exact qd_X12_way h
            · skip
              by_cases hk264 : k < 264
              · skip
                by_cases hk263 : k < 263
                · skip
                  have e : k = 262 := by omega
                  subst e; exact qd_X12_tries h
                · skip
                  have e : k = 263 := by omega
                  subst e; exact qd_X12_order h
              · skip
                by_cases hk265 : k < 265
                · skip
                  have e : k = 264 := by omega
                  subst e; exact qd_X12_proof h
                · skip
                  by_cases hk266 : k < 266
                  · skip
                    have e : k = 265 := by omega
                    subst e; exact qd_X12_fact h
                  · skip
                    have e : k = 266 := by omega
                    subst e; exact qd_X12_both h
      · skip
        by_cases hk286 : k < 286
        · skip
          by_cases hk276 : k < 276
          · skip
            by_cases hk271 : k < 271
            · skip
              by_cases hk269 : k < 269
              · skip
                by_cases hk268 : k < 268
                · skip
                  have e : k = 267 := by omega
                  subst e; exact qd_X12_comesTo h
                · skip
                  have e : k = 268 := by omega
                  subst e; exact qd_X12_isMan h
              · skip
                by_cases hk270 : k < 270
                · skip
                  have e : k = 269 := by omega
                  subst e; exact qd_X12_weighs h
                · skip
                  have e : k = 270 := by omega
                  subst e; exact qd_X12_reason h
            · skip
              by_cases hk273 : k < 273
              · skip
                by_cases hk272 : k < 272
                · skip
                  have e : k = 271 := by omega
                  subst e; exact qd_X12_pamphlet h
                · skip
                  have e : k = 272 := by omega
                  subst e; exact qd_X12_airOf h
              · skip
                by_cases hk274 : k < 274
                · skip
                  have e : k = 273 := by omega
                  subst e; exact qd_X12_air h
                · skip
                  by_cases hk275 : k < 275
                  · skip
                    have e : k = 274 := by omega
                    subst e; exact qd_X12_isSquare h
                  · skip
                    have e : k = 275 := by omega
                    subst e; exact qd_X12_piece h
          · skip
            by_cases hk281 : k < 281
            · skip
              by_cases hk278 : k < 278
              · skip
                by_cases hk277 : k < 277
                · skip
                  have e : k = 276 := by omega
                  subst e; exact qd_X12_stick h
                · skip
                  have e : k = 277 := by omega
                  subst e; exact qd_X12_move h
              · skip
                by_cases hk279 : k < 279
                · skip
                  have e : k = 278 := by omega
                  subst e; exact qd_X12_board h
                · skip
                  by_cases hk280 : k < 280
                  · skip
                    have e : k = 279 := by omega
                    subst e; exact qd_X12_isMaster h
                  · skip
                    have e : k = 280 := by omega
                    subst e; exact qd_X12_master h
            · skip
              by_cases hk283 : k < 283
              · skip
                by_cases hk282 : k < 282
                · skip
                  have e : k = 281 := by omega
                  subst e; exact qd_X12_was h
                · skip
                  have e : k = 282 := by omega
                  subst e; exact qd_X12_habit h
              · skip
                by_cases hk284 : k < 284
                · skip
                  have e : k = 283 := by omega
                  subst e; exact qd_X12_night h
                · skip
                  by_cases hk285 : k < 285
                  · skip
                    have e : k = 284 := by omega
                    subst e; exact qd_X12_mayBe h
                  · skip
                    have e : k = 285 := by omega
                    subst e; exact qd_X12_weight h
        · skip
          by_cases hk296 : k < 296
          · skip
            by_cases hk291 : k < 291
            · skip
              by_cases hk288 : k < 288
              · skip
                by_cases hk287 : k < 287
                · skip
                  have e : k = 286 := by omega
                  subst e; exact qd_X12_who h
                · skip
                  have e : k = 287 := by omega
                  subst e; exact qd_X12_all h
              · skip
                by_cases hk289 : k < 289
                · skip
                  have e : k = 288 := by omega
                  subst e; exact qd_X12_cam h
                · skip
                  by_cases hk290 : k < 290
                  · skip
                    have e : k = 289 := by omega
                    subst e; exact qd_X12_game h
                  · skip
                    have e : k = 290 := by omega
                    subst e; exact qd_X12_answer h
            · skip
              by_cases hk293 : k < 293
              · skip
                by_cases hk292 : k < 292
                · skip
                  have e : k = 291 := by omega
                  subst e; exact qd_X12_alone h
                · skip
                  have e : k = 292 := by omega
                  subst e; exact qd_X12_areClaims h
              · skip
                by_cases hk294 : k < 294
                · skip
                  have e : k = 293 := by omega
                  subst e; exact qd_X12_many h
                · skip
                  by_cases hk295 : k < 295
                  · skip
                    have e : k = 294 := by omega
                    subst e; exact qd_X12_writer h
                  · skip
                    have e : k = 295 := by omega
                    subst e; exact qd_X12_truth h
          · skip
            by_cases hk301 : k < 301
            · skip
              by_cases hk298 : k < 298
              · skip
                by_cases hk297 : k < 297
                · skip
                  have e : k = 296 := by omega
                  subst e; exact qd_X12_isAhead h
                · skip
                  have e : k = 297 := by omega
                  subst e; exact qd_X12_first h
              · skip
                by_cases hk299 : k < 299
                · skip
                  have e : k = 298 := by omega
                  subst e; exact qd_X12_copied h
                · skip
                  by_cases hk300 : k < 300
                  · skip
                    have e : k = 299 := by omega
                    subst e; exact qd_X12_story h
                  · skip
                    have e : k = 300 := by omega
                    subst e; exact qd_J6_lowestOneBit_0f7a4 h
            · skip
              by_cases hk303 : k < 303
              · skip
                by_cases hk302 : k < 302
                · skip
                  have e : k = 301 := by omega
                  subst e; exact qd_J6_numberOfTrailingZeros_0f7a4 h
                · skip
                  have e : k = 302 := by omega
                  subst e; exact qd_J6_bitCount_0f7a4 h
              · skip
                by_cases hk304 : k < 304
                · skip
                  have e : k = 303 := by omega
                  subst e; exact qd_J13_numberOfTrailingZeros_95d88 h
                · skip
                  by_cases hk305 : k < 305
                  · skip
                    have e : k = 304 := by omega
                    subst e; exact qd_J13_bitCount_95d88 h
                  · skip
                    have e : k = 305 := by omega
                    subst e; exact qd_L_law h
