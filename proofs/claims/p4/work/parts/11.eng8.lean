/-! ===== THE ENGINE, 8: all instructions; runs ===== -/
/-- a row of a method's code: the instruction, its length, what its pool number stands for -/
abbrev eQ : Type := Instr × Nat × Nat × Nat × Int
abbrev eCal : Type := Nat → List eV → eB → eH → Option (List eO)
def okI9 (as : List eV) (_ : eH) : Bool := match as with
  | a :: _ => eIsR a
  | [] => false
def noX (f : List eV → eB → eH → Option (List eO)) (as : List eV) (B : eB) (hp : eH) : Option (List eO) := match f as B hp with
  | some outs => bif eNoX outs then some outs else none
  | none => none
/-- one instruction: an arm each -/
def A_aload_n (k : Fin 4) (cal : eCal) (mt : Nat → eM) (np ciM : Nat → Nat) (dfs : Nat → List eV) (nL cm sm : Nat) (sc : Option (Nat × Nat)) (hn : Nat → Nat → Option Nat) (q : eQ) : eS → eR := x_ald k.val 1
def A_aload (k : Nat) (cal : eCal) (mt : Nat → eM) (np ciM : Nat → Nat) (dfs : Nat → List eV) (nL cm sm : Nat) (sc : Option (Nat × Nat)) (hn : Nat → Nat → Option Nat) (q : eQ) : eS → eR := x_ald k 2
def A_iload_n (k : Fin 4) (cal : eCal) (mt : Nat → eM) (np ciM : Nat → Nat) (dfs : Nat → List eV) (nL cm sm : Nat) (sc : Option (Nat × Nat)) (hn : Nat → Nat → Option Nat) (q : eQ) : eS → eR := x_ld 0 k.val 1
def A_iload (k : Nat) (cal : eCal) (mt : Nat → eM) (np ciM : Nat → Nat) (dfs : Nat → List eV) (nL cm sm : Nat) (sc : Option (Nat × Nat)) (hn : Nat → Nat → Option Nat) (q : eQ) : eS → eR := x_ld 0 k 2
def A_lload_n (k : Fin 4) (cal : eCal) (mt : Nat → eM) (np ciM : Nat → Nat) (dfs : Nat → List eV) (nL cm sm : Nat) (sc : Option (Nat × Nat)) (hn : Nat → Nat → Option Nat) (q : eQ) : eS → eR := x_ld 1 k.val 1
def A_lload (k : Nat) (cal : eCal) (mt : Nat → eM) (np ciM : Nat → Nat) (dfs : Nat → List eV) (nL cm sm : Nat) (sc : Option (Nat × Nat)) (hn : Nat → Nat → Option Nat) (q : eQ) : eS → eR := x_ld 1 k 2
def A_istore_n (k : Fin 4) (cal : eCal) (mt : Nat → eM) (np ciM : Nat → Nat) (dfs : Nat → List eV) (nL cm sm : Nat) (sc : Option (Nat × Nat)) (hn : Nat → Nat → Option Nat) (q : eQ) : eS → eR := x_st 0 k.val 1 nL
def A_istore (k : Nat) (cal : eCal) (mt : Nat → eM) (np ciM : Nat → Nat) (dfs : Nat → List eV) (nL cm sm : Nat) (sc : Option (Nat × Nat)) (hn : Nat → Nat → Option Nat) (q : eQ) : eS → eR := x_st 0 k 2 nL
def A_lstore_n (k : Fin 4) (cal : eCal) (mt : Nat → eM) (np ciM : Nat → Nat) (dfs : Nat → List eV) (nL cm sm : Nat) (sc : Option (Nat × Nat)) (hn : Nat → Nat → Option Nat) (q : eQ) : eS → eR := x_lst k.val 1 nL
def A_lstore (k : Nat) (cal : eCal) (mt : Nat → eM) (np ciM : Nat → Nat) (dfs : Nat → List eV) (nL cm sm : Nat) (sc : Option (Nat × Nat)) (hn : Nat → Nat → Option Nat) (q : eQ) : eS → eR := x_lst k 2 nL
def A_astore_n (k : Fin 4) (cal : eCal) (mt : Nat → eM) (np ciM : Nat → Nat) (dfs : Nat → List eV) (nL cm sm : Nat) (sc : Option (Nat × Nat)) (hn : Nat → Nat → Option Nat) (q : eQ) : eS → eR := x_ast k.val 1 nL
def A_astore (k : Nat) (cal : eCal) (mt : Nat → eM) (np ciM : Nat → Nat) (dfs : Nat → List eV) (nL cm sm : Nat) (sc : Option (Nat × Nat)) (hn : Nat → Nat → Option Nat) (q : eQ) : eS → eR := x_ast k 2 nL
def A_iinc (i : Nat) (n : Int) (cal : eCal) (mt : Nat → eM) (np ciM : Nat → Nat) (dfs : Nat → List eV) (nL cm sm : Nat) (sc : Option (Nat × Nat)) (hn : Nat → Nat → Option Nat) (q : eQ) : eS → eR := x_inc i n nL
def A_iconst (n : Int) (cal : eCal) (mt : Nat → eM) (np ciM : Nat → Nat) (dfs : Nat → List eV) (nL cm sm : Nat) (sc : Option (Nat × Nat)) (hn : Nat → Nat → Option Nat) (q : eQ) : eS → eR := x_k (eI (Int32.ofInt n).toInt) 1
def A_bipush (n : Int) (cal : eCal) (mt : Nat → eM) (np ciM : Nat → Nat) (dfs : Nat → List eV) (nL cm sm : Nat) (sc : Option (Nat × Nat)) (hn : Nat → Nat → Option Nat) (q : eQ) : eS → eR := x_k (eI (Int8.ofInt n).toInt32.toInt) 2
def A_sipush (n : Int) (cal : eCal) (mt : Nat → eM) (np ciM : Nat → Nat) (dfs : Nat → List eV) (nL cm sm : Nat) (sc : Option (Nat × Nat)) (hn : Nat → Nat → Option Nat) (q : eQ) : eS → eR := x_k (eI (Int16.ofInt n).toInt32.toInt) 3
def A_lconst (n : Fin 2) (cal : eCal) (mt : Nat → eM) (np ciM : Nat → Nat) (dfs : Nat → List eV) (nL cm sm : Nat) (sc : Option (Nat × Nat)) (hn : Nat → Nat → Option Nat) (q : eQ) : eS → eR := x_k (eJ (Int64.ofNat (n : Nat)).toInt) 1
def A_ldc  (cal : eCal) (mt : Nat → eM) (np ciM : Nat → Nat) (dfs : Nat → List eV) (nL cm sm : Nat) (sc : Option (Nat × Nat)) (hn : Nat → Nat → Option Nat) (q : eQ) : eS → eR := bif Nat.ble 2000 q.2.2.1 then x_k (5, 2 * (q.2.2.1 - 2000) + 1, 0, 0) 2 else x_k (eI (Int32.ofInt q.2.2.2.2).toInt) 2
def A_ldc_w  (cal : eCal) (mt : Nat → eM) (np ciM : Nat → Nat) (dfs : Nat → List eV) (nL cm sm : Nat) (sc : Option (Nat × Nat)) (hn : Nat → Nat → Option Nat) (q : eQ) : eS → eR := bif Nat.ble 2000 q.2.2.1 then x_k (5, 2 * (q.2.2.1 - 2000) + 1, 0, 0) 3 else x_k (eI (Int32.ofInt q.2.2.2.2).toInt) 3
def A_ldc2_w  (cal : eCal) (mt : Nat → eM) (np ciM : Nat → Nat) (dfs : Nat → List eV) (nL cm sm : Nat) (sc : Option (Nat × Nat)) (hn : Nat → Nat → Option Nat) (q : eQ) : eS → eR := x_k (eJ (Int64.ofInt q.2.2.2.2).toInt) 3
def A_getfield  (cal : eCal) (mt : Nat → eM) (np ciM : Nat → Nat) (dfs : Nat → List eV) (nL cm sm : Nat) (sc : Option (Nat × Nat)) (hn : Nat → Nat → Option Nat) (q : eQ) : eS → eR := bif Nat.ble 3000 q.2.2.1 then x_sget (q.2.2.1 - 3000) else x_getf q.2.2.1 q.2.2.2.1
def A_putfield  (cal : eCal) (mt : Nat → eM) (np ciM : Nat → Nat) (dfs : Nat → List eV) (nL cm sm : Nat) (sc : Option (Nat × Nat)) (hn : Nat → Nat → Option Nat) (q : eQ) : eS → eR := x_putf q.2.2.1 q.2.2.2.1 q.2.2.2.2.toNat
def A_iaload  (cal : eCal) (mt : Nat → eM) (np ciM : Nat → Nat) (dfs : Nat → List eV) (nL cm sm : Nat) (sc : Option (Nat × Nat)) (hn : Nat → Nat → Option Nat) (q : eQ) : eS → eR := x_xld 0 sc
def A_laload  (cal : eCal) (mt : Nat → eM) (np ciM : Nat → Nat) (dfs : Nat → List eV) (nL cm sm : Nat) (sc : Option (Nat × Nat)) (hn : Nat → Nat → Option Nat) (q : eQ) : eS → eR := x_xld 1 none
def A_baload  (cal : eCal) (mt : Nat → eM) (np ciM : Nat → Nat) (dfs : Nat → List eV) (nL cm sm : Nat) (sc : Option (Nat × Nat)) (hn : Nat → Nat → Option Nat) (q : eQ) : eS → eR := fun S => match S.2.2.1 with
  | _ :: a :: _ => bif Nat.beq a.1 5 then x_sbl S else x_xld 2 none S
  | _ => none
def A_iastore  (cal : eCal) (mt : Nat → eM) (np ciM : Nat → Nat) (dfs : Nat → List eV) (nL cm sm : Nat) (sc : Option (Nat × Nat)) (hn : Nat → Nat → Option Nat) (q : eQ) : eS → eR := x_xst 0 okI
def A_lastore  (cal : eCal) (mt : Nat → eM) (np ciM : Nat → Nat) (dfs : Nat → List eV) (nL cm sm : Nat) (sc : Option (Nat × Nat)) (hn : Nat → Nat → Option Nat) (q : eQ) : eS → eR := x_xst 1 okJ
def A_bastore  (cal : eCal) (mt : Nat → eM) (np ciM : Nat → Nat) (dfs : Nat → List eV) (nL cm sm : Nat) (sc : Option (Nat × Nat)) (hn : Nat → Nat → Option Nat) (q : eQ) : eS → eR := x_xst 2 okB
def A_arraylength  (cal : eCal) (mt : Nat → eM) (np ciM : Nat → Nat) (dfs : Nat → List eV) (nL cm sm : Nat) (sc : Option (Nat × Nat)) (hn : Nat → Nat → Option Nat) (q : eQ) : eS → eR := fun S => match S.2.2.1 with
  | a :: _ => bif Nat.beq a.1 5 && Nat.blt 0 a.2.1 then x_sle S else x_len sc S
  | _ => none
def A_newarray_int (cal : eCal) (mt : Nat → eM) (np ciM : Nat → Nat) (dfs : Nat → List eV) (nL cm sm : Nat) (sc : Option (Nat × Nat)) (hn : Nat → Nat → Option Nat) (q : eQ) : eS → eR := x_newa 0 cm sm
def A_newarray_long (cal : eCal) (mt : Nat → eM) (np ciM : Nat → Nat) (dfs : Nat → List eV) (nL cm sm : Nat) (sc : Option (Nat × Nat)) (hn : Nat → Nat → Option Nat) (q : eQ) : eS → eR := x_newa 1 cm sm
def A_newarray_byte (cal : eCal) (mt : Nat → eM) (np ciM : Nat → Nat) (dfs : Nat → List eV) (nL cm sm : Nat) (sc : Option (Nat × Nat)) (hn : Nat → Nat → Option Nat) (q : eQ) : eS → eR := x_newa 2 cm sm
def A_new  (cal : eCal) (mt : Nat → eM) (np ciM : Nat → Nat) (dfs : Nat → List eV) (nL cm sm : Nat) (sc : Option (Nat × Nat)) (hn : Nat → Nat → Option Nat) (q : eQ) : eS → eR := x_new q.2.2.1 (dfs q.2.2.1) cm sm
def A_dup  (cal : eCal) (mt : Nat → eM) (np ciM : Nat → Nat) (dfs : Nat → List eV) (nL cm sm : Nat) (sc : Option (Nat × Nat)) (hn : Nat → Nat → Option Nat) (q : eQ) : eS → eR := x_dup
def A_dup2  (cal : eCal) (mt : Nat → eM) (np ciM : Nat → Nat) (dfs : Nat → List eV) (nL cm sm : Nat) (sc : Option (Nat × Nat)) (hn : Nat → Nat → Option Nat) (q : eQ) : eS → eR := x_dup2
def A_pop  (cal : eCal) (mt : Nat → eM) (np ciM : Nat → Nat) (dfs : Nat → List eV) (nL cm sm : Nat) (sc : Option (Nat × Nat)) (hn : Nat → Nat → Option Nat) (q : eQ) : eS → eR := x_pop
def A_iadd  (cal : eCal) (mt : Nat → eM) (np ciM : Nat → Nat) (dfs : Nat → List eV) (nL cm sm : Nat) (sc : Option (Nat × Nat)) (hn : Nat → Nat → Option Nat) (q : eQ) : eS → eR := x_bin (fun x y => x + y) 1
def A_isub  (cal : eCal) (mt : Nat → eM) (np ciM : Nat → Nat) (dfs : Nat → List eV) (nL cm sm : Nat) (sc : Option (Nat × Nat)) (hn : Nat → Nat → Option Nat) (q : eQ) : eS → eR := x_bin (fun x y => x - y) 2
def A_iand  (cal : eCal) (mt : Nat → eM) (np ciM : Nat → Nat) (dfs : Nat → List eV) (nL cm sm : Nat) (sc : Option (Nat × Nat)) (hn : Nat → Nat → Option Nat) (q : eQ) : eS → eR := x_bin (fun x y => x &&& y) 3
def A_ior  (cal : eCal) (mt : Nat → eM) (np ciM : Nat → Nat) (dfs : Nat → List eV) (nL cm sm : Nat) (sc : Option (Nat × Nat)) (hn : Nat → Nat → Option Nat) (q : eQ) : eS → eR := x_bin (fun x y => x ||| y) 4
def A_ixor  (cal : eCal) (mt : Nat → eM) (np ciM : Nat → Nat) (dfs : Nat → List eV) (nL cm sm : Nat) (sc : Option (Nat × Nat)) (hn : Nat → Nat → Option Nat) (q : eQ) : eS → eR := x_bin (fun x y => x ^^^ y) 10
def A_imul  (cal : eCal) (mt : Nat → eM) (np ciM : Nat → Nat) (dfs : Nat → List eV) (nL cm sm : Nat) (sc : Option (Nat × Nat)) (hn : Nat → Nat → Option Nat) (q : eQ) : eS → eR := x_bin (fun x y => x * y) 7
def A_ishl  (cal : eCal) (mt : Nat → eM) (np ciM : Nat → Nat) (dfs : Nat → List eV) (nL cm sm : Nat) (sc : Option (Nat × Nat)) (hn : Nat → Nat → Option Nat) (q : eQ) : eS → eR := x_bin (fun x y => x <<< (y &&& 31)) 5
def A_ishr  (cal : eCal) (mt : Nat → eM) (np ciM : Nat → Nat) (dfs : Nat → List eV) (nL cm sm : Nat) (sc : Option (Nat × Nat)) (hn : Nat → Nat → Option Nat) (q : eQ) : eS → eR := x_bin (fun x y => x >>> (y &&& 31)) 6
def A_iushr  (cal : eCal) (mt : Nat → eM) (np ciM : Nat → Nat) (dfs : Nat → List eV) (nL cm sm : Nat) (sc : Option (Nat × Nat)) (hn : Nat → Nat → Option Nat) (q : eQ) : eS → eR := x_bin (fun x y => (x.toUInt32 >>> (y.toUInt32 &&& Int32.toUInt32 31)).toInt32) 0
def A_idiv  (cal : eCal) (mt : Nat → eM) (np ciM : Nat → Nat) (dfs : Nat → List eV) (nL cm sm : Nat) (sc : Option (Nat × Nat)) (hn : Nat → Nat → Option Nat) (q : eQ) : eS → eR := x_div (fun x y => x / y) 9
def A_irem  (cal : eCal) (mt : Nat → eM) (np ciM : Nat → Nat) (dfs : Nat → List eV) (nL cm sm : Nat) (sc : Option (Nat × Nat)) (hn : Nat → Nat → Option Nat) (q : eQ) : eS → eR := x_div (fun x y => x - x / y * y) 8
def A_ineg  (cal : eCal) (mt : Nat → eM) (np ciM : Nat → Nat) (dfs : Nat → List eV) (nL cm sm : Nat) (sc : Option (Nat × Nat)) (hn : Nat → Nat → Option Nat) (q : eQ) : eS → eR := x_un (fun x => -x) (-2147483648) 2147483647
def A_i2b  (cal : eCal) (mt : Nat → eM) (np ciM : Nat → Nat) (dfs : Nat → List eV) (nL cm sm : Nat) (sc : Option (Nat × Nat)) (hn : Nat → Nat → Option Nat) (q : eQ) : eS → eR := x_i2b
def A_i2c  (cal : eCal) (mt : Nat → eM) (np ciM : Nat → Nat) (dfs : Nat → List eV) (nL cm sm : Nat) (sc : Option (Nat × Nat)) (hn : Nat → Nat → Option Nat) (q : eQ) : eS → eR := x_i2c
def A_i2l  (cal : eCal) (mt : Nat → eM) (np ciM : Nat → Nat) (dfs : Nat → List eV) (nL cm sm : Nat) (sc : Option (Nat × Nat)) (hn : Nat → Nat → Option Nat) (q : eQ) : eS → eR := x_i2l
def A_l2i  (cal : eCal) (mt : Nat → eM) (np ciM : Nat → Nat) (dfs : Nat → List eV) (nL cm sm : Nat) (sc : Option (Nat × Nat)) (hn : Nat → Nat → Option Nat) (q : eQ) : eS → eR := x_l2i
def A_ladd  (cal : eCal) (mt : Nat → eM) (np ciM : Nat → Nat) (dfs : Nat → List eV) (nL cm sm : Nat) (sc : Option (Nat × Nat)) (hn : Nat → Nat → Option Nat) (q : eQ) : eS → eR := x_binL (fun x y => x + y)
def A_lsub  (cal : eCal) (mt : Nat → eM) (np ciM : Nat → Nat) (dfs : Nat → List eV) (nL cm sm : Nat) (sc : Option (Nat × Nat)) (hn : Nat → Nat → Option Nat) (q : eQ) : eS → eR := x_binL (fun x y => x - y)
def A_land  (cal : eCal) (mt : Nat → eM) (np ciM : Nat → Nat) (dfs : Nat → List eV) (nL cm sm : Nat) (sc : Option (Nat × Nat)) (hn : Nat → Nat → Option Nat) (q : eQ) : eS → eR := x_binL (fun x y => x &&& y)
def A_lor  (cal : eCal) (mt : Nat → eM) (np ciM : Nat → Nat) (dfs : Nat → List eV) (nL cm sm : Nat) (sc : Option (Nat × Nat)) (hn : Nat → Nat → Option Nat) (q : eQ) : eS → eR := x_binL (fun x y => x ||| y)
def A_lushr  (cal : eCal) (mt : Nat → eM) (np ciM : Nat → Nat) (dfs : Nat → List eV) (nL cm sm : Nat) (sc : Option (Nat × Nat)) (hn : Nat → Nat → Option Nat) (q : eQ) : eS → eR := x_shL (fun x y => (x.toUInt64 >>> (y.toInt64.toUInt64 &&& Int64.toUInt64 63)).toInt64)
def A_lshl  (cal : eCal) (mt : Nat → eM) (np ciM : Nat → Nat) (dfs : Nat → List eV) (nL cm sm : Nat) (sc : Option (Nat × Nat)) (hn : Nat → Nat → Option Nat) (q : eQ) : eS → eR := x_shL (fun x y => x <<< (y.toInt64 &&& 63))
def A_lcmp  (cal : eCal) (mt : Nat → eM) (np ciM : Nat → Nat) (dfs : Nat → List eV) (nL cm sm : Nat) (sc : Option (Nat × Nat)) (hn : Nat → Nat → Option Nat) (q : eQ) : eS → eR := x_lcmp q.2.2.1
def A_if_icmp (k : Jvm.ClassFile.Cond) (off : Int) (cal : eCal) (mt : Nat → eM) (np ciM : Nat → Nat) (dfs : Nat → List eV) (nL cm sm : Nat) (sc : Option (Nat × Nat)) (hn : Nat → Nat → Option Nat) (q : eQ) : eS → eR := x_icmp k off
def A_ifCond (k : Jvm.ClassFile.Cond) (off : Int) (cal : eCal) (mt : Nat → eM) (np ciM : Nat → Nat) (dfs : Nat → List eV) (nL cm sm : Nat) (sc : Option (Nat × Nat)) (hn : Nat → Nat → Option Nat) (q : eQ) : eS → eR := x_ifc k off
def A_goto (off : Int) (cal : eCal) (mt : Nat → eM) (np ciM : Nat → Nat) (dfs : Nat → List eV) (nL cm sm : Nat) (sc : Option (Nat × Nat)) (hn : Nat → Nat → Option Nat) (q : eQ) : eS → eR := x_goto off
def A_tableswitch (df : Int) (lo : Int) (hi : Int) (offs : Array Int) (cal : eCal) (mt : Nat → eM) (np ciM : Nat → Nat) (dfs : Nat → List eV) (nL cm sm : Nat) (sc : Option (Nat × Nat)) (hn : Nat → Nat → Option Nat) (q : eQ) : eS → eR := x_tab df lo hi offs
def A_invokestatic  (cal : eCal) (mt : Nat → eM) (np ciM : Nat → Nat) (dfs : Nat → List eV) (nL cm sm : Nat) (sc : Option (Nat × Nat)) (hn : Nat → Nat → Option Nat) (q : eQ) : eS → eR := (match q.2.2.2.1 with
    | 1 => x_copyA
    | 3 => x_min cm sm
    | 4 => x_max cm sm
    | 5 => x_abs cm sm
    | _ => x_call (cal q.2.2.1) (np q.2.2.1) (mt q.2.2.1).2.2.2.2.2.1 (mt q.2.2.1).2.2.2.2.2.2 cm sm hn (fun _ _ => true))
def A_invokevirtual  (cal : eCal) (mt : Nat → eM) (np ciM : Nat → Nat) (dfs : Nat → List eV) (nL cm sm : Nat) (sc : Option (Nat × Nat)) (hn : Nat → Nat → Option Nat) (q : eQ) : eS → eR := x_call (cal q.2.2.1) (np q.2.2.1 + 1) (mt q.2.2.1).2.2.2.2.2.1 (mt q.2.2.1).2.2.2.2.2.2 cm sm hn (bif Nat.beq (ciM q.2.2.1) 100 then okS else okV (ciM q.2.2.1))
def A_getstatic  (cal : eCal) (mt : Nat → eM) (np ciM : Nat → Nat) (dfs : Nat → List eV) (nL cm sm : Nat) (sc : Option (Nat × Nat)) (hn : Nat → Nat → Option Nat) (q : eQ) : eS → eR := x_gst q.2.2.1
def A_invokespecial  (cal : eCal) (mt : Nat → eM) (np ciM : Nat → Nat) (dfs : Nat → List eV) (nL cm sm : Nat) (sc : Option (Nat × Nat)) (hn : Nat → Nat → Option Nat) (q : eQ) : eS → eR := (match q.2.2.2.1 with
    | 1 => x_obj
    | _ => x_call (noX (cal q.2.2.1)) (np q.2.2.1 + 1) (mt q.2.2.1).2.2.2.2.2.1 (mt q.2.2.1).2.2.2.2.2.2 cm sm (fun _ _ => none) okI9)
def A_none (cal : eCal) (mt : Nat → eM) (np ciM : Nat → Nat) (dfs : Nat → List eV) (nL cm sm : Nat) (sc : Option (Nat × Nat)) (hn : Nat → Nat → Option Nat) (q : eQ) : eS → eR := fun _ => none
def disp (i : Instr) : eCal → (Nat → eM) → (Nat → Nat) → (Nat → Nat) → (Nat → List eV) → Nat → Nat → Nat → Option (Nat × Nat) → (Nat → Nat → Option Nat) → eQ → eS → eR := match i with
  | .aload_n k => A_aload_n k
  | .aload k => A_aload k
  | .iload_n k => A_iload_n k
  | .iload k => A_iload k
  | .lload_n k => A_lload_n k
  | .lload k => A_lload k
  | .istore_n k => A_istore_n k
  | .istore k => A_istore k
  | .lstore_n k => A_lstore_n k
  | .lstore k => A_lstore k
  | .astore_n k => A_astore_n k
  | .astore k => A_astore k
  | .iinc i n => A_iinc i n
  | .iconst n => A_iconst n
  | .bipush n => A_bipush n
  | .sipush n => A_sipush n
  | .lconst n => A_lconst n
  | .ldc _ => A_ldc
  | .ldc_w _ => A_ldc_w
  | .ldc2_w _ => A_ldc2_w
  | .getfield _ => A_getfield
  | .putfield _ => A_putfield
  | .iaload => A_iaload
  | .laload => A_laload
  | .baload => A_baload
  | .iastore => A_iastore
  | .lastore => A_lastore
  | .bastore => A_bastore
  | .arraylength => A_arraylength
  | .newarray .int => A_newarray_int
  | .newarray .long => A_newarray_long
  | .newarray .byte => A_newarray_byte
  | .new _ => A_new
  | .dup => A_dup
  | .dup2 => A_dup2
  | .pop => A_pop
  | .iadd => A_iadd
  | .isub => A_isub
  | .iand => A_iand
  | .ior => A_ior
  | .ixor => A_ixor
  | .imul => A_imul
  | .ishl => A_ishl
  | .ishr => A_ishr
  | .iushr => A_iushr
  | .idiv => A_idiv
  | .irem => A_irem
  | .ineg => A_ineg
  | .i2b => A_i2b
  | .i2c => A_i2c
  | .i2l => A_i2l
  | .l2i => A_l2i
  | .ladd => A_ladd
  | .lsub => A_lsub
  | .land => A_land
  | .lor => A_lor
  | .lushr => A_lushr
  | .lshl => A_lshl
  | .lcmp => A_lcmp
  | .if_icmp k off => A_if_icmp k off
  | .ifCond k off => A_ifCond k off
  | .goto off => A_goto off
  | .tableswitch df lo hi offs => A_tableswitch df lo hi offs
  | .invokestatic _ => A_invokestatic
  | .invokevirtual _ => A_invokevirtual
  | .invokespecial _ => A_invokespecial
  | .getstatic _ => A_getstatic
  | _ => A_none
def ex (cal : eCal) (mt : Nat → eM) (np ciM : Nat → Nat) (dfs : Nat → List eV) (nL cm sm : Nat) (sc : Option (Nat × Nat)) (hn : Nat → Nat → Option Nat) (q : eQ) : eS → eR := disp q.1 cal mt np ciM dfs nL cm sm sc hn q
def lenP (i : Instr) (n : Nat) : Prop := match i with
  | .aload_n _ | .iload_n _ | .lload_n _ | .istore_n _ | .lstore_n _ | .astore_n _ | .iconst _ | .lconst _ | .iaload | .laload | .baload | .aaload | .iastore | .lastore | .bastore | .arraylength | .dup | .dup2 | .pop | .iadd | .isub | .iand | .ior | .ixor | .imul | .ishl | .ishr | .iushr | .idiv | .irem | .ineg | .i2b | .i2c | .i2l | .l2i | .ladd | .lsub | .land | .lor | .lushr | .lshl | .lcmp => n = 1
  | .aload _ | .iload _ | .lload _ | .istore _ | .lstore _ | .astore _ | .bipush _ | .ldc _ | .newarray _ => n = 2
  | .tableswitch _ _ _ _ => True
  | _ => n = 3
/-- what the tables must say of a row -/
def okE (GT : List Cond) (cl : List vw_C) (own : String) (meth : Method) (mt : Nat → eM) (np ciM : Nat → Nat) (dfs : Nat → List eV) (q : eQ) : Prop := match q.1 with
  | .ldc ix => (2000 ≤ q.2.2.1 ∧ ∃ tx, sIDs[q.2.2.1 - 2000]? = some (own, ix, tx)) ∨ (q.2.2.1 < 2000 ∧ Jvm.Cond.constant own ix (Int32.ofInt q.2.2.2.2) ∈ GT)
  | .ldc_w ix => (2000 ≤ q.2.2.1 ∧ ∃ tx, sIDs[q.2.2.1 - 2000]? = some (own, ix, tx)) ∨ (q.2.2.1 < 2000 ∧ Jvm.Cond.constant own ix (Int32.ofInt q.2.2.2.2) ∈ GT)
  | .getstatic ix => (q.2.2.1 = 1 ∧ Jvm.Cond.fieldLink own ix "java/lang/String" "COMPACT_STRINGS" "Z" ∈ GT) ∨ (q.2.2.1 = 2 ∧ Jvm.Cond.fieldLink own ix "jdk/internal/util/Preconditions" "SIOOBE_FORMATTER" "Ljava/util/function/BiFunction;" ∈ GT)
  | .ldc2_w ix => Jvm.Cond.constantLong own ix (Int64.ofInt q.2.2.2.2) ∈ GT
  | .getfield ix => (3000 ≤ q.2.2.1 ∧ ((q.2.2.1 - 3000 = 0 ∧ Jvm.Cond.fieldLink own ix "java/lang/String" "value" "[B" ∈ GT) ∨ (q.2.2.1 - 3000 = 1 ∧ Jvm.Cond.fieldLink own ix "java/lang/String" "coder" "B" ∈ GT))) ∨ (q.2.2.1 < 3000 ∧ eFl cl GT own ix q.2.2.1 q.2.2.2.1)
  | .putfield ix => eFp cl GT own meth ix q.2.2.1 q.2.2.2.1 q.2.2.2.2.toNat
  | .newarray .int => Jvm.Cond.arrayClass .int ∈ GT
  | .newarray .long => Jvm.Cond.arrayClass .long ∈ GT
  | .newarray .byte => Jvm.Cond.arrayClass .byte ∈ GT
  | .new ix => eNw cl GT own ix q.2.2.1 (dfs q.2.2.1)
  | .invokestatic ix => (match q.2.2.2.1 with
    | 1 => Jvm.Cond.methodLink own ix arraycopyName ∈ GT ∧ Jvm.Cond.native arraycopyName ∈ GT ∧ Jvm.Cond.static arraycopyName ∈ GT ∧ Jvm.Cond.initialized "java/lang/System" ∈ GT
    | 4 => Jvm.Cond.methodLink own ix Lib.Math.max.name ∈ GT ∧ Jvm.Cond.static Lib.Math.max.name ∈ GT ∧ Jvm.Cond.initialized "java/lang/Math" ∈ GT ∧ Jvm.Cond.code Lib.Math.max.name Lib.Math.max.code 2 (some .int) ∈ GT
    | 5 => Jvm.Cond.methodLink own ix Lib.Math.abs.name ∈ GT ∧ Jvm.Cond.static Lib.Math.abs.name ∈ GT ∧ Jvm.Cond.initialized "java/lang/Math" ∈ GT ∧ Jvm.Cond.code Lib.Math.abs.name Lib.Math.abs.code 1 (some .int) ∈ GT
    | 3 => Jvm.Cond.methodLink own ix Lib.Math.min.name ∈ GT ∧ Jvm.Cond.static Lib.Math.min.name ∈ GT ∧ Jvm.Cond.initialized "java/lang/Math" ∈ GT ∧ Jvm.Cond.code Lib.Math.min.name Lib.Math.min.code 2 (some .int) ∈ GT
    | 2 => (∃ hh, eMtW GT (mt q.2.2.1) (np q.2.2.1) hh) ∧ Jvm.Cond.methodLink own ix (mt q.2.2.1).1 ∈ GT ∧ Jvm.Cond.static (mt q.2.2.1).1 ∈ GT
    | _ => eMt GT (mt q.2.2.1) (np q.2.2.1) ∧ Jvm.Cond.methodLink own ix (mt q.2.2.1).1 ∈ GT ∧ Jvm.Cond.static (mt q.2.2.1).1 ∈ GT)
  | .invokevirtual ix => eMt GT (mt q.2.2.1) (np q.2.2.1) ∧ Jvm.Cond.methodLink own ix (mt q.2.2.1).1 ∈ GT ∧ Jvm.Cond.instanceMethod (mt q.2.2.1).1 ∈ GT ∧ Jvm.Cond.selects (mt q.2.2.1).1.cls (mt q.2.2.1).1 (mt q.2.2.1).1 ∈ GT ∧ ((ciM q.2.2.1 = 100 ∧ (mt q.2.2.1).1.cls = "java/lang/String") ∨ (ciM q.2.2.1 ≠ 100 ∧ ∃ z : vw_C, cl[ciM q.2.2.1]? = some z ∧ z.1 = (mt q.2.2.1).1.cls))
  | .invokespecial ix => (match q.2.2.2.1 with
    | 1 => Jvm.Cond.methodLink own ix Lib.objectInit ∈ GT ∧ Jvm.Cond.instanceMethod Lib.objectInit ∈ GT ∧ Jvm.Cond.code Lib.objectInit ⟨#[0xb1]⟩ 1 none ∈ GT
    | _ => eMt GT (mt q.2.2.1) (np q.2.2.1) ∧ (mt q.2.2.1).2.2.2.2.1 = none ∧ (Jvm.Cond.methodLink own ix (mt q.2.2.1).1 ∈ GT ∨ ∃ host, (own, ix, (mt q.2.2.1).1, host) ∈ eNest) ∧ Jvm.Cond.instanceMethod (mt q.2.2.1).1 ∈ GT ∧ (mt q.2.2.1).1.name = "<init>")
  | _ => True
section E8
variable {p : Program} {l : Launch} {e : Env} {R : Room} {s : State} {m : MethodId} {args : Array Value} {below : List Frame} {meth : Method} {c : Code} {Q : State → Prop}
variable {D : va_G} {cl : List vw_C} {cA : Nat → ClassId} {A : Nat → Prop} {sb : eSB} {ρ : Nat → Int} {ad0 : Nat → Nat} {h0 nL : Nat} {cc : ByteArray} {own : String}
variable {strs : List (String × Nat × String)} {GT : List Cond} {cal : eCal} {mt : Nat → eM} {np ciM : Nat → Nat} {dfs : Nat → List eV} {cm sm d : Nat} {sc : Option (Nat × Nat)} {hn : Nat → Nat → Option Nat}
theorem i8_32 (x : Int32) : -128 ≤ x.toInt8.toInt32.toInt ∧ x.toInt8.toInt32.toInt ≤ 127 := by
  rw [Int8.toInt_toInt32]
  exact ⟨Int8.le_toInt _, Int.le_of_lt_add_one (Int8.toInt_lt _)⟩
theorem c16_32 (x : Int32) : 0 ≤ (x.toUInt32 % 65536).toInt32.toInt ∧ (x.toUInt32 % 65536).toInt32.toInt ≤ 65535 := by
  have h1 : (x.toUInt32 % 65536).toNat < 65536 := by
    rw [UInt32.toNat_mod]
    exact Nat.mod_lt _ (by decide)
  have h2 : (x.toUInt32 % 65536).toInt32.toBitVec.toNat = (x.toUInt32 % 65536).toNat := rfl
  have h3 := i32_of_nat (x := (x.toUInt32 % 65536).toInt32) (by rw [h2]; omega)
  omega
theorem noX_ok {f : List eV → eB → eH → Option (List eO)} {as : List eV} {B : eB} {hp : eH} {outs : List eO} (h : noX f as B hp = some outs) : eNoX outs = true ∧ f as B hp = some outs := by
  unfold noX at h
  split at h
  next o ho =>
    cases hb : eNoX o with
    | false => rw [hb] at h; cases h
    | true => rw [hb] at h; cases h; exact ⟨hb, ho⟩
  next => cases h
set_option maxHeartbeats 4000000 in
theorem ex_ok (K : eK p m c s args cc own nL GT D cl cA A) (hZ : eZ strs sb A s s.heap) (hsc : eSc s A sb ρ sc) (hgood : ∀ w ∈ GT, goodWord w = true) (hcm : cm ≤ R.cells) (hsm : sm ≤ R.slots) (hfr : d + 9 ≤ R.frames) (hlo : 64 * d + 1064 ≤ R.locals) (hnat : 8 + (nativeFrameWords "java/lang/System" "arraycopy" 5 + 11) ≤ R.locals)
    (hcal : ∀ M as B hp outs, cal M as B hp = some outs → eCM l GT strs ρ sb D cl cA d (mt M) as B hp outs)
    {S : eS} {q : eQ} (hd : decode cc S.1 = .ok (q.1, q.2.1)) (hq : okE GT cl own meth mt np ciM dfs q)
    (caught : ∀ (E h : Nat), hn E S.1 = some h → ∀ (H : Heap) (locs : List Loc) (k z : Nat) (ls : Array Slot) (vs : List Value) (ce : Cell) (q : Addr), H[q]? = some ce → ce.vm = .none → s.vm.findClass (exN E) = some ce.cls → W p l e R s m args below meth c H locs k z Q (F0 m h ls [.ref q]) → vx_W p l e R s m args below meth c H locs k z Q (F0 m S.1 ls vs) q)
    (hlen : lenP q.1 q.2.1)
    {rs : List (Nat × eS)} (h : ex cal mt np ciM dfs nL cm sm sc hn q S = some rs) (hr : ∀ r ∈ rs, eLf p l e R s m args below meth c Q D cl cA A sb ρ ad0 h0 nL r) : eW p l e R s m args below meth c Q D cl cA A sb ρ ad0 h0 nL S := by
  obtain ⟨hx, hb, hml, hown, hts, hK, hA⟩ := id K
  have hG : ∀ w ∈ GT, w ∈ GT ∧ goodWord w = true := fun w hw => ⟨hw, hgood w hw⟩
  obtain ⟨i, len, a1, a2, z⟩ := q
  have hl : lenP i len := hlen
  dsimp only at hd hq
  unfold ex disp at h
  dsimp only at h
  split at h
  · have hl : len = 1 := hl; subst hl; exact k_aload K hd (Or.inr ⟨_, rfl, rfl, rfl⟩) h hr
  · have hl : len = 2 := hl; subst hl; exact k_aload K hd (Or.inl ⟨rfl, rfl⟩) h hr
  · have hl : len = 1 := hl; subst hl; exact k_iload K hd (Or.inr ⟨_, rfl, rfl, rfl⟩) h hr
  · have hl : len = 2 := hl; subst hl; exact k_iload K hd (Or.inl ⟨rfl, rfl⟩) h hr
  · have hl : len = 1 := hl; subst hl; exact k_lload K hd (Or.inr ⟨_, rfl, rfl, rfl⟩) h hr
  · have hl : len = 2 := hl; subst hl; exact k_lload K hd (Or.inl ⟨rfl, rfl⟩) h hr
  · have hl : len = 1 := hl; subst hl; exact k_istore K hd (Or.inr ⟨_, rfl, rfl, rfl⟩) h hr
  · have hl : len = 2 := hl; subst hl; exact k_istore K hd (Or.inl ⟨rfl, rfl⟩) h hr
  · have hl : len = 1 := hl; subst hl; exact k_lstore K hd (Or.inr ⟨_, rfl, rfl, rfl⟩) h hr
  · have hl : len = 2 := hl; subst hl; exact k_lstore K hd (Or.inl ⟨rfl, rfl⟩) h hr
  · have hl : len = 1 := hl; subst hl; exact k_astore K hd (Or.inr ⟨_, rfl, rfl, rfl⟩) h hr
  · have hl : len = 2 := hl; subst hl; exact k_astore K hd (Or.inl ⟨rfl, rfl⟩) h hr
  · have hl : len = 3 := hl; subst hl; exact k_iinc K hd h hr
  · have hl : len = 1 := hl; subst hl; exact k_push (fun _ => gV_int (gN_I _)) (fun H locs ls vs k => lv_iconst hx hb hd rfl k) h hr
  · have hl : len = 2 := hl; subst hl; exact k_push (fun _ => gV_int (gN_I _)) (fun H locs ls vs k => lv_bipush hx hb hd rfl k) h hr
  · have hl : len = 3 := hl; subst hl; exact k_push (fun _ => gV_int (gN_I _)) (fun H locs ls vs k => lv_sipush hx hb hd rfl k) h hr
  · have hl : len = 1 := hl; subst hl; exact k_push (fun _ => gV_long (gN_J _)) (fun H locs ls vs k => lv_lconst hx hb hd rfl k) h hr
  · have hl : len = 2 := hl; subst hl
    unfold A_ldc at h
    dsimp only at h
    rcases hq with ⟨hq1, tx, hq2⟩ | ⟨hq1, hq2⟩
    · rw [Nat.ble_eq_true_of_le hq1, cond_true] at h
      have hS := (hZ.2.2.1.2.1 _ _ hq2).1
      exact k_push (a := (5, 2 * (a1 - 2000) + 1, 0, 0)) (v := .ref (sb.1 (2 * (a1 - 2000) + 1))) (fun _ => rfl) (fun H locs ls vs k => va_ldcS hx hb hown hS hd k) h hr
    · rw [show Nat.ble 2000 a1 = false from by cases hz : Nat.ble 2000 a1 with | false => rfl | true => exact absurd (Nat.le_of_ble_eq_true hz) (Nat.not_le.mpr hq1), cond_false] at h
      exact k_push (fun _ => gV_int (gN_I _)) (fun H locs ls vs k => lv_ldc hx hb hown (hts _ hq2) hd k) h hr
  · have hl : len = 3 := hl; subst hl
    unfold A_ldc_w at h
    dsimp only at h
    rcases hq with ⟨hq1, tx, hq2⟩ | ⟨hq1, hq2⟩
    · rw [Nat.ble_eq_true_of_le hq1, cond_true] at h
      have hS := (hZ.2.2.1.2.1 _ _ hq2).1
      exact k_push (a := (5, 2 * (a1 - 2000) + 1, 0, 0)) (v := .ref (sb.1 (2 * (a1 - 2000) + 1))) (fun _ => rfl) (fun H locs ls vs k => va_ldcSW hx hb hown hS hd k) h hr
    · rw [show Nat.ble 2000 a1 = false from by cases hz : Nat.ble 2000 a1 with | false => rfl | true => exact absurd (Nat.le_of_ble_eq_true hz) (Nat.not_le.mpr hq1), cond_false] at h
      exact k_push (fun _ => gV_int (gN_I _)) (fun H locs ls vs k => lv_ldcw hx hb hown (hts _ hq2) hd k) h hr
  · have hl : len = 3 := hl; subst hl; exact k_push (fun _ => gV_long (gN_J _)) (fun H locs ls vs k => lv_ldc2 hx hb hown (hts _ hq) hd k) h hr
  · have hl : len = 3 := hl; subst hl
    unfold A_getfield at h
    dsimp only at h
    rcases hq with ⟨hq1, hq2⟩ | ⟨hq1, hq2⟩
    · rw [Nat.ble_eq_true_of_le hq1, cond_true] at h
      exact k_sget K hZ hq2 hd h hr
    · rw [show Nat.ble 3000 a1 = false from by cases hz : Nat.ble 3000 a1 with | false => rfl | true => exact absurd (Nat.le_of_ble_eq_true hz) (Nat.not_le.mpr hq1), cond_false] at h
      exact k_getf K hd hq2 h hr
  · have hl : len = 3 := hl; subst hl; exact k_putf K hd hq h hr
  · have hl : len = 1 := hl; subst hl; exact k_iald K hsc hd h hr
  · have hl : len = 1 := hl; subst hl; exact k_lald K hd h hr
  · have hl : len = 1 := hl; subst hl
    unfold A_baload at h
    split at h
    next x9 a9 r9 hst9 =>
      cases hb9 : Nat.beq a9.1 5 with
      | true => rw [hb9, cond_true] at h; exact k_sbl K hZ hd h hr
      | false => rw [hb9, cond_false] at h; exact k_bald K hd h hr
    next => cases h
  · have hl : len = 1 := hl; subst hl; exact k_iast K hd h hr
  · have hl : len = 1 := hl; subst hl; exact k_last K hd h hr
  · have hl : len = 1 := hl; subst hl; exact k_bast K hd h hr
  · have hl : len = 1 := hl; subst hl
    unfold A_arraylength at h
    split at h
    next a9 r9 hst9 =>
      cases hb9 : (Nat.beq a9.1 5 && Nat.blt 0 a9.2.1) with
      | true => rw [hb9, cond_true] at h; exact k_sle K hZ hd h hr
      | false => rw [hb9, cond_false] at h; exact k_len K hsc hd h hr
    next => cases h
  · have hl : len = 2 := hl; subst hl
    exact k_newa (t := 0) (ty := .int) (at_ := .int) K hcm hsm rfl hq (by decide) rfl (fun _ _ q => q) (fun N' => ⟨(N', .inl (fun _ => 0)), fun _ => rfl, fun ad => ⟨fun _ => 0, rfl, fun j _ => gV_int (gN_I 0)⟩⟩) hd h hr
  · have hl : len = 2 := hl; subst hl
    exact k_newa (t := 1) (ty := .long) (at_ := .long) K hcm hsm rfl hq (by decide) rfl (fun _ _ q => q) (fun N' => ⟨(N', .inr (.inl (fun _ => 0))), fun _ => rfl, fun ad => ⟨fun _ => 0, rfl, fun j _ => gV_long (gN_J 0)⟩⟩) hd h hr
  · have hl : len = 2 := hl; subst hl
    exact k_newa (t := 2) (ty := .byte) (at_ := .byte) K hcm hsm rfl hq (by decide) rfl (fun _ _ q => q) (fun N' => ⟨(N', .inl (fun _ => 0)), fun _ => rfl, fun ad => ⟨fun _ => 0, rfl, fun j _ => ⟨gV_int (gN_I 0), rfl⟩⟩⟩) hd h hr
  · have hl : len = 3 := hl; subst hl; exact k_new K hcm hsm hd hq h hr
  · have hl : len = 1 := hl; subst hl; exact k_dup K hd h hr
  · have hl : len = 1 := hl; subst hl; exact k_dup2 K hd h hr
  · have hl : len = 1 := hl; subst hl; exact k_pop K hd h hr
  · have hl : len = 1 := hl; subst hl; exact k_bin eApx1 (fun _ _ => rfl) (fun H locs ls vs x y k => lv_iadd hx hb hd k) h hr
  · have hl : len = 1 := hl; subst hl; exact k_bin eApx2 (fun _ _ => rfl) (fun H locs ls vs x y k => lv_isub hx hb hd k) h hr
  · have hl : len = 1 := hl; subst hl; exact k_bin eApx3 (fun _ _ => rfl) (fun H locs ls vs x y k => lv_iand hx hb hd k) h hr
  · have hl : len = 1 := hl; subst hl; exact k_bin eApx4 trivial (fun H locs ls vs x y k => lv_ior hx hb hd k) h hr
  · have hl : len = 1 := hl; subst hl; exact k_bin eApx10 trivial (fun H locs ls vs x y k => lv_ixor hx hb hd k) h hr
  · have hl : len = 1 := hl; subst hl; exact k_bin eApx7 (fun _ _ => rfl) (fun H locs ls vs x y k => lv_imul hx hb hd k) h hr
  · have hl : len = 1 := hl; subst hl; exact k_bin eApx5 trivial (fun H locs ls vs x y k => lv_ishl hx hb hd k) h hr
  · have hl : len = 1 := hl; subst hl; exact k_bin eApx6 (fun _ _ => rfl) (fun H locs ls vs x y k => lv_ishr hx hb hd k) h hr
  · have hl : len = 1 := hl; subst hl; exact k_bin (eApx0 _) trivial (fun H locs ls vs x y k => lv_iushr hx hb hd rfl k) h hr
  · have hl : len = 1 := hl; subst hl; exact k_div eApx9 (fun H locs ls vs x y hy k => lv_idiv hx hb hd hy k) h hr
  · have hl : len = 1 := hl; subst hl; exact k_div eApx8 (fun H locs ls vs x y hy k => lv_irem hx hb hd hy k) h hr
  · have hl : len = 1 := hl; subst hl; exact k_un (fun x => ⟨i32_lo _, i32_hi _⟩) (fun H locs ls vs x k => lv_ineg hx hb hd k) h hr
  · have hl : len = 1 := hl; subst hl; exact k_i2b (fun H locs ls vs x k => lv_i2b hx hb hd rfl k) h hr
  · have hl : len = 1 := hl; subst hl; exact k_i2c c16_32 (fun H locs ls vs x k => lv_i2c hx hb hd rfl k) h hr
  · have hl : len = 1 := hl; subst hl; exact k_i2l K hd h hr
  · have hl : len = 1 := hl; subst hl; exact k_l2i K hd h hr
  · have hl : len = 1 := hl; subst hl; exact k_binL (fun H locs ls vs x y k => lv_ladd hx hb hd k) h hr
  · have hl : len = 1 := hl; subst hl; exact k_binL (fun H locs ls vs x y k => lv_lsub hx hb hd k) h hr
  · have hl : len = 1 := hl; subst hl; exact k_binL (fun H locs ls vs x y k => lv_land hx hb hd k) h hr
  · have hl : len = 1 := hl; subst hl; exact k_binL (fun H locs ls vs x y k => lv_lor hx hb hd k) h hr
  · have hl : len = 1 := hl; subst hl; exact k_shL (fun H locs ls vs x y k => lv_lushr hx hb hd rfl k) h hr
  · have hl : len = 1 := hl; subst hl; exact k_shL (fun H locs ls vs x y k => lv_lshl hx hb hd rfl k) h hr
  · have hl : len = 1 := hl; subst hl; exact k_lcmp K hd h hr
  · have hl : len = 3 := hl; subst hl; exact k_icmp K hd h hr
  · have hl : len = 3 := hl; subst hl; exact k_ifc K hd h hr
  · have hl : len = 3 := hl; subst hl; exact k_goto K hd h hr
  · exact k_tab K hd h hr
  · have hl : len = 3 := hl; subst hl
    unfold okE at hq
    dsimp only at hq
    unfold A_invokestatic at h
    dsimp only at h
    split at h
    · obtain ⟨w1, w2, w3, w4⟩ := hq
      exact k_copyA K (by omega) hnat w1 w2 w3 w4 hd h hr
    · obtain ⟨w1, w2, w3, w4⟩ := hq
      exact k_min K hcm hsm (by omega) (by omega) w1 w2 w3 w4 hd h hr
    · obtain ⟨w1, w2, w3, w4⟩ := hq
      exact k_max K hcm hsm (by omega) (by omega) w1 w2 w3 w4 hd h hr
    · obtain ⟨w1, w2, w3, w4⟩ := hq
      exact k_abs K hcm hsm (by omega) (by omega) w1 w2 w3 w4 hd h hr
    · next hne hne3 hne4 hne5 =>
      split at hq
      · exact (hne rfl).elim
      · exact (hne4 rfl).elim
      · exact (hne5 rfl).elim
      · exact (hne3 rfl).elim
      · obtain ⟨⟨hh, hq1⟩, hq2, hq3⟩ := hq
        exact k_callSX K hZ hG hq1 hq2 hq3 hfr hlo hcm hsm (fun as B hp outs ho => hcal _ as B hp outs ho) hd caught h hr
      · exact k_callS K hZ hG hq.1 hq.2.1 hq.2.2 hfr hlo hcm hsm (fun as B hp outs ho => hcal _ as B hp outs ho) hd caught h hr
  · have hl : len = 3 := hl; subst hl
    unfold A_invokevirtual at h
    dsimp only at h
    obtain ⟨q1, q2, q3, q4, q5⟩ := hq
    rcases q5 with ⟨e1, e2⟩ | ⟨e1, e2⟩
    · rw [show Nat.beq (ciM a1) 100 = true from by rw [e1]; rfl, cond_true] at h
      exact k_callVS K hZ hG q1 q2 q3 q4 e2 hfr hlo hcm hsm (fun as B hp outs ho => hcal _ as B hp outs ho) hd caught h hr
    · rw [show Nat.beq (ciM a1) 100 = false from by cases hz : Nat.beq (ciM a1) 100 with | false => rfl | true => exact absurd (Nat.eq_of_beq_eq_true hz) e1, cond_false] at h
      exact k_callV K hZ hG q1 q2 q3 q4 e2 hfr hlo hcm hsm (fun as B hp outs ho => hcal _ as B hp outs ho) hd caught h hr
  · have hl : len = 3 := hl; subst hl
    unfold okE at hq
    dsimp only at hq
    unfold A_invokespecial at h
    dsimp only at h
    split at h
    · obtain ⟨w1, w2, w3⟩ := hq
      exact k_obj K (by omega) (by omega) w1 w2 w3 hd h hr
    · next hne =>
      split at hq
      · exact (hne rfl).elim
      · exact k_callI K hZ hG hq.1 hq.2.1 hq.2.2.1 hq.2.2.2.1 hq.2.2.2.2 hfr hlo hcm hsm (fun as B hp outs ho => ⟨(noX_ok ho).1, hcal _ as B hp outs (noX_ok ho).2⟩) hd h hr
  · have hl : len = 3 := hl; subst hl; exact k_gst K hZ hq hd h hr
  · cases h
end E8
