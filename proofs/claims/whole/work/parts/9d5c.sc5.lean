/-! the rows of the law, on -/
def cd_LW24 : List (Nat × ZTr) := [(1570, tAld 1 1571), (1571, tCall 1 0 0 (zNt T_X8_suspended) (zRcv 11) 1574), (1574, tAld 2 1575), (1575, tCall 1 0 0 (zNt T_X9_suspended) (zRcv 12) 1578), (1578, tIc_eq 3161 1581), (1581, tC (zi 0) 1582), (1582, tRi zPz)]
set_option maxRecDepth 100000 in
set_option maxHeartbeats 1500000 in
theorem hs_LW24 {l : Launch} (hl : l.stackTraces = false) (p : Program) (e : Env) (s : State) (m : MethodId) (args : Array Value) (below : List Frame) (meth : Method) (c : Code) (D : va_G) (A : Nat → Prop) (a0 : Nat → Nat) (M0 : ZM) (K : ZRet) (KX : ZEx) (mc ms : Nat) (X : zCtx p l room_1 s m args meth c code RL (Cond.initialized RX8 :: zG) 10 (Option.some Jvm.ClassFile.FieldType.boolean) D A a0 M0 mc ms) (hNc : zNc0 s) : ∀ q ∈ cd_LW24, zSd p l e room_1 s m args below meth c 10 D A a0 M0 K KX mc ms q.1 q.2 :=
    zall_c (zs_aload_n X (pc := 1570) (q := 1) rfl (by decide +kernel)) <|
    zall_c (zs_callVt X (pc := 1571) zc_X8 (fun _ ht => ⟨(zCB ht gw_5_53 gw_1_1 gw_5_50 rfl rfl (by decide +kernel) ⟨Nat.le_of_ble_eq_true rfl, Nat.le_of_ble_eq_true rfl⟩), ht _ (.tail _ gw_5_51), ht _ (.tail _ gw_5_52)⟩) (M_X8_suspended hl) (by decide +kernel)) <|
    zall_c (zs_aload_n X (pc := 1574) (q := 2) rfl (by decide +kernel)) <|
    zall_c (zs_callVt X (pc := 1575) zc_X9 (fun _ ht => ⟨(zCB ht gw_9_190 gw_1_13 gw_9_187 rfl rfl (by decide +kernel) ⟨Nat.le_of_ble_eq_true rfl, Nat.le_of_ble_eq_true rfl⟩), ht _ (.tail _ gw_9_188), ht _ (.tail _ gw_9_189)⟩) (M_X9_suspended hl) (by decide +kernel)) <|
    zall_c (zs_icmp_eq X (pc := 1578) (off := 1583) (by decide +kernel) (by decide)) <|
    zall_c (zs_iconst X (pc := 1581) (by decide) (by decide +kernel)) <|
    zall_c (zs_zret X (pc := 1582) rfl zR_bool (by decide +kernel)) <|
    zall_n
def cd_LW25 : List (Nat × ZTr) := [(1583, tAld 1 1584), (1584, tAld 0 1585), (1585, tIld 5 1587), (1587, tC (zi 1) 1588), (1588, tAdd 1589), (1589, tIal 20 1590), (1590, tAld 3 1591), (1591, tCall 3 1 6 (fun av M K _ => T_L_risk av M K) zAny 1594), (1594, tIst 6 1596), (1596, tAld 2 1597), (1597, tAld 0 1598), (1598, tIld 5 1600), (1600, tC (zi 1) 1601), (1601, tAdd 1602), (1602, tIal 20 1603), (1603, tCall 2 0 0 (zNt T_X9_risk) (zRcv 12) 1606), (1606, tIst 7 1608), (1608, tAld 2 1609), (1609, tCall 1 0 0 (zNt T_X9_thrown) (zRcv 12) 1612), (1612, tIld 6 1614), (1614, tIc_eq 1619 1617), (1617, tC (zi 0) 1618), (1618, tRi zPz), (1619, tIld 6 1621), (1621, tIf_ne 1636 1624), (1624, tAld 3 1625), (1625, tC (zi 0) 1626), (1626, tLal 1627), (1627, tIld 7 1629), (1629, tI2l 1630), (1630, tLcmp 1631), (1631, tIf_eq 1636 1634), (1634, tC (zi 0) 1635), (1635, tRi zPz), (1636, tGo 3161)]
set_option maxRecDepth 100000 in
set_option maxHeartbeats 1500000 in
theorem hs_LW25 {l : Launch} (hl : l.stackTraces = false) (p : Program) (e : Env) (s : State) (m : MethodId) (args : Array Value) (below : List Frame) (meth : Method) (c : Code) (D : va_G) (A : Nat → Prop) (a0 : Nat → Nat) (M0 : ZM) (K : ZRet) (KX : ZEx) (mc ms : Nat) (X : zCtx p l room_1 s m args meth c code RL (Cond.initialized RX8 :: zG) 10 (Option.some Jvm.ClassFile.FieldType.boolean) D A a0 M0 mc ms) (hNc : zNc0 s) : ∀ q ∈ cd_LW25, zSd p l e room_1 s m args below meth c 10 D A a0 M0 K KX mc ms q.1 q.2 :=
    zall_c (zs_aload_n X (pc := 1583) (q := 1) rfl (by decide +kernel)) <|
    zall_c (zs_aload_n X (pc := 1584) (q := 0) rfl (by decide +kernel)) <|
    zall_c (zs_iload X (pc := 1585) (by decide +kernel)) <|
    zall_c (zs_iconst X (pc := 1587) (by decide) (by decide +kernel)) <|
    zall_c (zs_iadd X (pc := 1588) (by decide +kernel)) <|
    zall_c (zs_iaload20 X (pc := 1589) (by decide +kernel)) <|
    zall_c (zs_aload_n X (pc := 1590) (q := 3) rfl (by decide +kernel)) <|
    zall_c (zs_callSW X (pc := 1591) hNc (fun _ ht => zCSW ht gw_6_131 gw_1_0 gw_6_129 gw_6_130 rfl rfl (by decide +kernel) ⟨Nat.le_of_ble_eq_true rfl, Nat.le_of_ble_eq_true rfl⟩) (M_L_risk hl) (by decide +kernel)) <|
    zall_c (zs_istore X (pc := 1594) (by decide) (by decide +kernel)) <|
    zall_c (zs_aload_n X (pc := 1596) (q := 2) rfl (by decide +kernel)) <|
    zall_c (zs_aload_n X (pc := 1597) (q := 0) rfl (by decide +kernel)) <|
    zall_c (zs_iload X (pc := 1598) (by decide +kernel)) <|
    zall_c (zs_iconst X (pc := 1600) (by decide) (by decide +kernel)) <|
    zall_c (zs_iadd X (pc := 1601) (by decide +kernel)) <|
    zall_c (zs_iaload20 X (pc := 1602) (by decide +kernel)) <|
    zall_c (zs_callVt X (pc := 1603) zc_X9 (fun _ ht => ⟨(zCB ht gw_9_194 gw_1_13 gw_9_191 rfl rfl (by decide +kernel) ⟨Nat.le_of_ble_eq_true rfl, Nat.le_of_ble_eq_true rfl⟩), ht _ (.tail _ gw_9_192), ht _ (.tail _ gw_9_193)⟩) (M_X9_risk hl) (by decide +kernel)) <|
    zall_c (zs_istore X (pc := 1606) (by decide) (by decide +kernel)) <|
    zall_c (zs_aload_n X (pc := 1608) (q := 2) rfl (by decide +kernel)) <|
    zall_c (zs_callVt X (pc := 1609) zc_X9 (fun _ ht => ⟨(zCB ht gw_7_208 gw_1_13 gw_7_205 rfl rfl (by decide +kernel) ⟨Nat.le_of_ble_eq_true rfl, Nat.le_of_ble_eq_true rfl⟩), ht _ (.tail _ gw_7_206), ht _ (.tail _ gw_7_207)⟩) (M_X9_thrown hl) (by decide +kernel)) <|
    zall_c (zs_iload X (pc := 1612) (by decide +kernel)) <|
    zall_c (zs_icmp_eq X (pc := 1614) (off := 5) (by decide +kernel) (by decide)) <|
    zall_c (zs_iconst X (pc := 1617) (by decide) (by decide +kernel)) <|
    zall_c (zs_zret X (pc := 1618) rfl zR_bool (by decide +kernel)) <|
    zall_c (zs_iload X (pc := 1619) (by decide +kernel)) <|
    zall_c (zs_if_ne X (pc := 1621) (off := 15) (by decide +kernel) (by decide)) <|
    zall_c (zs_aload_n X (pc := 1624) (q := 3) rfl (by decide +kernel)) <|
    zall_c (zs_iconst X (pc := 1625) (by decide) (by decide +kernel)) <|
    zall_c (zs_laload23 X (pc := 1626) (by decide +kernel)) <|
    zall_c (zs_iload X (pc := 1627) (by decide +kernel)) <|
    zall_c (zs_i2l X (pc := 1629) (by decide +kernel)) <|
    zall_c (zs_lcmp X (pc := 1630) (by decide +kernel)) <|
    zall_c (zs_if_eq X (pc := 1631) (off := 5) (by decide +kernel) (by decide)) <|
    zall_c (zs_iconst X (pc := 1634) (by decide) (by decide +kernel)) <|
    zall_c (zs_zret X (pc := 1635) rfl zR_bool (by decide +kernel)) <|
    zall_c (zs_goto X (pc := 1636) (off := 1525) (by decide +kernel) (by decide)) <|
    zall_n
def cd_LW26 : List (Nat × ZTr) := [(1639, tAld 1 1640), (1640, tCall 1 0 0 (zNt T_X8_nextAudit) (zRcv 11) 1643), (1643, tAld 2 1644), (1644, tCall 1 0 0 (zNt T_X9_nextAudit) (zRcv 12) 1647), (1647, tIc_eq 3161 1650), (1650, tC (zi 0) 1651), (1651, tRi zPz)]
set_option maxRecDepth 100000 in
set_option maxHeartbeats 1500000 in
theorem hs_LW26 {l : Launch} (hl : l.stackTraces = false) (p : Program) (e : Env) (s : State) (m : MethodId) (args : Array Value) (below : List Frame) (meth : Method) (c : Code) (D : va_G) (A : Nat → Prop) (a0 : Nat → Nat) (M0 : ZM) (K : ZRet) (KX : ZEx) (mc ms : Nat) (X : zCtx p l room_1 s m args meth c code RL (Cond.initialized RX8 :: zG) 10 (Option.some Jvm.ClassFile.FieldType.boolean) D A a0 M0 mc ms) (hNc : zNc0 s) : ∀ q ∈ cd_LW26, zSd p l e room_1 s m args below meth c 10 D A a0 M0 K KX mc ms q.1 q.2 :=
    zall_c (zs_aload_n X (pc := 1639) (q := 1) rfl (by decide +kernel)) <|
    zall_c (zs_callVt X (pc := 1640) zc_X8 (fun _ ht => ⟨(zCB ht gw_5_58 gw_1_1 gw_5_55 rfl rfl (by decide +kernel) ⟨Nat.le_of_ble_eq_true rfl, Nat.le_of_ble_eq_true rfl⟩), ht _ (.tail _ gw_5_56), ht _ (.tail _ gw_5_57)⟩) (M_X8_nextAudit hl) (by decide +kernel)) <|
    zall_c (zs_aload_n X (pc := 1643) (q := 2) rfl (by decide +kernel)) <|
    zall_c (zs_callVt X (pc := 1644) zc_X9 (fun _ ht => ⟨(zCB ht gw_9_202 gw_1_13 gw_9_199 rfl rfl (by decide +kernel) ⟨Nat.le_of_ble_eq_true rfl, Nat.le_of_ble_eq_true rfl⟩), ht _ (.tail _ gw_9_200), ht _ (.tail _ gw_9_201)⟩) (M_X9_nextAudit hl) (by decide +kernel)) <|
    zall_c (zs_icmp_eq X (pc := 1647) (off := 1514) (by decide +kernel) (by decide)) <|
    zall_c (zs_iconst X (pc := 1650) (by decide) (by decide +kernel)) <|
    zall_c (zs_zret X (pc := 1651) rfl zR_bool (by decide +kernel)) <|
    zall_n
def cd_LW27 : List (Nat × ZTr) := [(1652, tAld 1 1653), (1653, tCall 1 0 0 (zNt T_X8_nextDue) (zRcv 11) 1656), (1656, tAld 2 1657), (1657, tCall 1 0 0 (zNt T_X9_nextDue) (zRcv 12) 1660), (1660, tIc_eq 3161 1663), (1663, tC (zi 0) 1664), (1664, tRi zPz)]
set_option maxRecDepth 100000 in
set_option maxHeartbeats 1500000 in
theorem hs_LW27 {l : Launch} (hl : l.stackTraces = false) (p : Program) (e : Env) (s : State) (m : MethodId) (args : Array Value) (below : List Frame) (meth : Method) (c : Code) (D : va_G) (A : Nat → Prop) (a0 : Nat → Nat) (M0 : ZM) (K : ZRet) (KX : ZEx) (mc ms : Nat) (X : zCtx p l room_1 s m args meth c code RL (Cond.initialized RX8 :: zG) 10 (Option.some Jvm.ClassFile.FieldType.boolean) D A a0 M0 mc ms) (hNc : zNc0 s) : ∀ q ∈ cd_LW27, zSd p l e room_1 s m args below meth c 10 D A a0 M0 K KX mc ms q.1 q.2 :=
    zall_c (zs_aload_n X (pc := 1652) (q := 1) rfl (by decide +kernel)) <|
    zall_c (zs_callVt X (pc := 1653) zc_X8 (fun _ ht => ⟨(zCB ht gw_5_70 gw_1_1 gw_5_67 rfl rfl (by decide +kernel) ⟨Nat.le_of_ble_eq_true rfl, Nat.le_of_ble_eq_true rfl⟩), ht _ (.tail _ gw_5_68), ht _ (.tail _ gw_5_69)⟩) (M_X8_nextDue hl) (by decide +kernel)) <|
    zall_c (zs_aload_n X (pc := 1656) (q := 2) rfl (by decide +kernel)) <|
    zall_c (zs_callVt X (pc := 1657) zc_X9 (fun _ ht => ⟨(zCB ht gw_9_210 gw_1_13 gw_9_207 rfl rfl (by decide +kernel) ⟨Nat.le_of_ble_eq_true rfl, Nat.le_of_ble_eq_true rfl⟩), ht _ (.tail _ gw_9_208), ht _ (.tail _ gw_9_209)⟩) (M_X9_nextDue hl) (by decide +kernel)) <|
    zall_c (zs_icmp_eq X (pc := 1660) (off := 1501) (by decide +kernel) (by decide)) <|
    zall_c (zs_iconst X (pc := 1663) (by decide) (by decide +kernel)) <|
    zall_c (zs_zret X (pc := 1664) rfl zR_bool (by decide +kernel)) <|
    zall_n
def cd_LW28 : List (Nat × ZTr) := [(1665, tAld 1 1666), (1666, tAld 0 1667), (1667, tIld 5 1669), (1669, tC (zi 1) 1670), (1670, tAdd 1671), (1671, tIal 20 1672), (1672, tAld 3 1673), (1673, tCall 3 1 6 (fun av M K _ => T_L_lateIn av M K) zAny 1676), (1676, tIst 6 1678), (1678, tAld 2 1679), (1679, tAld 0 1680), (1680, tIld 5 1682), (1682, tC (zi 1) 1683), (1683, tAdd 1684), (1684, tIal 20 1685), (1685, tCall 2 0 0 (zNt T_X9_lateIn) (zRcv 12) 1688), (1688, tIst 7 1690), (1690, tAld 2 1691), (1691, tCall 1 0 0 (zNt T_X9_thrown) (zRcv 12) 1694), (1694, tIld 6 1696), (1696, tIc_eq 1701 1699), (1699, tC (zi 0) 1700), (1700, tRi zPz), (1701, tIld 6 1703), (1703, tIf_ne 1718 1706), (1706, tAld 3 1707), (1707, tC (zi 0) 1708), (1708, tLal 1709), (1709, tIld 7 1711), (1711, tI2l 1712), (1712, tLcmp 1713), (1713, tIf_eq 1718 1716), (1716, tC (zi 0) 1717), (1717, tRi zPz), (1718, tGo 3161)]
set_option maxRecDepth 100000 in
set_option maxHeartbeats 1500000 in
theorem hs_LW28 {l : Launch} (hl : l.stackTraces = false) (p : Program) (e : Env) (s : State) (m : MethodId) (args : Array Value) (below : List Frame) (meth : Method) (c : Code) (D : va_G) (A : Nat → Prop) (a0 : Nat → Nat) (M0 : ZM) (K : ZRet) (KX : ZEx) (mc ms : Nat) (X : zCtx p l room_1 s m args meth c code RL (Cond.initialized RX8 :: zG) 10 (Option.some Jvm.ClassFile.FieldType.boolean) D A a0 M0 mc ms) (hNc : zNc0 s) : ∀ q ∈ cd_LW28, zSd p l e room_1 s m args below meth c 10 D A a0 M0 K KX mc ms q.1 q.2 :=
    zall_c (zs_aload_n X (pc := 1665) (q := 1) rfl (by decide +kernel)) <|
    zall_c (zs_aload_n X (pc := 1666) (q := 0) rfl (by decide +kernel)) <|
    zall_c (zs_iload X (pc := 1667) (by decide +kernel)) <|
    zall_c (zs_iconst X (pc := 1669) (by decide) (by decide +kernel)) <|
    zall_c (zs_iadd X (pc := 1670) (by decide +kernel)) <|
    zall_c (zs_iaload20 X (pc := 1671) (by decide +kernel)) <|
    zall_c (zs_aload_n X (pc := 1672) (q := 3) rfl (by decide +kernel)) <|
    zall_c (zs_callSW X (pc := 1673) hNc (fun _ ht => zCSW ht gw_6_139 gw_1_0 gw_6_137 gw_6_138 rfl rfl (by decide +kernel) ⟨Nat.le_of_ble_eq_true rfl, Nat.le_of_ble_eq_true rfl⟩) (M_L_lateIn hl) (by decide +kernel)) <|
    zall_c (zs_istore X (pc := 1676) (by decide) (by decide +kernel)) <|
    zall_c (zs_aload_n X (pc := 1678) (q := 2) rfl (by decide +kernel)) <|
    zall_c (zs_aload_n X (pc := 1679) (q := 0) rfl (by decide +kernel)) <|
    zall_c (zs_iload X (pc := 1680) (by decide +kernel)) <|
    zall_c (zs_iconst X (pc := 1682) (by decide) (by decide +kernel)) <|
    zall_c (zs_iadd X (pc := 1683) (by decide +kernel)) <|
    zall_c (zs_iaload20 X (pc := 1684) (by decide +kernel)) <|
    zall_c (zs_callVt X (pc := 1685) zc_X9 (fun _ ht => ⟨(zCB ht gw_9_214 gw_1_13 gw_9_211 rfl rfl (by decide +kernel) ⟨Nat.le_of_ble_eq_true rfl, Nat.le_of_ble_eq_true rfl⟩), ht _ (.tail _ gw_9_212), ht _ (.tail _ gw_9_213)⟩) (M_X9_lateIn hl) (by decide +kernel)) <|
    zall_c (zs_istore X (pc := 1688) (by decide) (by decide +kernel)) <|
    zall_c (zs_aload_n X (pc := 1690) (q := 2) rfl (by decide +kernel)) <|
    zall_c (zs_callVt X (pc := 1691) zc_X9 (fun _ ht => ⟨(zCB ht gw_7_208 gw_1_13 gw_7_205 rfl rfl (by decide +kernel) ⟨Nat.le_of_ble_eq_true rfl, Nat.le_of_ble_eq_true rfl⟩), ht _ (.tail _ gw_7_206), ht _ (.tail _ gw_7_207)⟩) (M_X9_thrown hl) (by decide +kernel)) <|
    zall_c (zs_iload X (pc := 1694) (by decide +kernel)) <|
    zall_c (zs_icmp_eq X (pc := 1696) (off := 5) (by decide +kernel) (by decide)) <|
    zall_c (zs_iconst X (pc := 1699) (by decide) (by decide +kernel)) <|
    zall_c (zs_zret X (pc := 1700) rfl zR_bool (by decide +kernel)) <|
    zall_c (zs_iload X (pc := 1701) (by decide +kernel)) <|
    zall_c (zs_if_ne X (pc := 1703) (off := 15) (by decide +kernel) (by decide)) <|
    zall_c (zs_aload_n X (pc := 1706) (q := 3) rfl (by decide +kernel)) <|
    zall_c (zs_iconst X (pc := 1707) (by decide) (by decide +kernel)) <|
    zall_c (zs_laload23 X (pc := 1708) (by decide +kernel)) <|
    zall_c (zs_iload X (pc := 1709) (by decide +kernel)) <|
    zall_c (zs_i2l X (pc := 1711) (by decide +kernel)) <|
    zall_c (zs_lcmp X (pc := 1712) (by decide +kernel)) <|
    zall_c (zs_if_eq X (pc := 1713) (off := 5) (by decide +kernel) (by decide)) <|
    zall_c (zs_iconst X (pc := 1716) (by decide) (by decide +kernel)) <|
    zall_c (zs_zret X (pc := 1717) rfl zR_bool (by decide +kernel)) <|
    zall_c (zs_goto X (pc := 1718) (off := 1443) (by decide +kernel) (by decide)) <|
    zall_n
def cd_LW29 : List (Nat × ZTr) := [(1721, tAld 1 1722), (1722, tAld 0 1723), (1723, tIld 5 1725), (1725, tC (zi 1) 1726), (1726, tAdd 1727), (1727, tIal 20 1728), (1728, tAld 0 1729), (1729, tIld 5 1731), (1731, tC (zi 2) 1732), (1732, tAdd 1733), (1733, tIal 20 1734), (1734, tAld 0 1735), (1735, tIld 5 1737), (1737, tC (zi 3) 1738), (1738, tAdd 1739), (1739, tIal 20 1740), (1740, tAld 3 1741), (1741, tCall 5 4 24 (fun av M K _ => T_L_stateIf av M K) zAny 1744), (1744, tIst 6 1746), (1746, tAld 2 1747), (1747, tAld 0 1748), (1748, tIld 5 1750), (1750, tC (zi 1) 1751), (1751, tAdd 1752), (1752, tIal 20 1753), (1753, tAld 0 1754), (1754, tIld 5 1756), (1756, tC (zi 2) 1757), (1757, tAdd 1758), (1758, tIal 20 1759), (1759, tAld 0 1760), (1760, tIld 5 1762), (1762, tC (zi 3) 1763), (1763, tAdd 1764), (1764, tIal 20 1765), (1765, tCall 4 0 0 (zNt T_X9_stateIf) (zRcv 12) 1768), (1768, tIst 7 1770), (1770, tAld 2 1771), (1771, tCall 1 0 0 (zNt T_X9_thrown) (zRcv 12) 1774), (1774, tIld 6 1776), (1776, tIc_eq 1781 1779), (1779, tC (zi 0) 1780), (1780, tRi zPz), (1781, tIld 6 1783), (1783, tIf_ne 1798 1786), (1786, tAld 3 1787), (1787, tC (zi 0) 1788), (1788, tLal 1789), (1789, tIld 7 1791), (1791, tI2l 1792), (1792, tLcmp 1793), (1793, tIf_eq 1798 1796), (1796, tC (zi 0) 1797), (1797, tRi zPz), (1798, tGo 3161)]
set_option maxRecDepth 100000 in
set_option maxHeartbeats 1500000 in
theorem hs_LW29 {l : Launch} (hl : l.stackTraces = false) (p : Program) (e : Env) (s : State) (m : MethodId) (args : Array Value) (below : List Frame) (meth : Method) (c : Code) (D : va_G) (A : Nat → Prop) (a0 : Nat → Nat) (M0 : ZM) (K : ZRet) (KX : ZEx) (mc ms : Nat) (X : zCtx p l room_1 s m args meth c code RL (Cond.initialized RX8 :: zG) 10 (Option.some Jvm.ClassFile.FieldType.boolean) D A a0 M0 mc ms) (hNc : zNc0 s) : ∀ q ∈ cd_LW29, zSd p l e room_1 s m args below meth c 10 D A a0 M0 K KX mc ms q.1 q.2 :=
    zall_c (zs_aload_n X (pc := 1721) (q := 1) rfl (by decide +kernel)) <|
    zall_c (zs_aload_n X (pc := 1722) (q := 0) rfl (by decide +kernel)) <|
    zall_c (zs_iload X (pc := 1723) (by decide +kernel)) <|
    zall_c (zs_iconst X (pc := 1725) (by decide) (by decide +kernel)) <|
    zall_c (zs_iadd X (pc := 1726) (by decide +kernel)) <|
    zall_c (zs_iaload20 X (pc := 1727) (by decide +kernel)) <|
    zall_c (zs_aload_n X (pc := 1728) (q := 0) rfl (by decide +kernel)) <|
    zall_c (zs_iload X (pc := 1729) (by decide +kernel)) <|
    zall_c (zs_iconst X (pc := 1731) (by decide) (by decide +kernel)) <|
    zall_c (zs_iadd X (pc := 1732) (by decide +kernel)) <|
    zall_c (zs_iaload20 X (pc := 1733) (by decide +kernel)) <|
    zall_c (zs_aload_n X (pc := 1734) (q := 0) rfl (by decide +kernel)) <|
    zall_c (zs_iload X (pc := 1735) (by decide +kernel)) <|
    zall_c (zs_iconst X (pc := 1737) (by decide) (by decide +kernel)) <|
    zall_c (zs_iadd X (pc := 1738) (by decide +kernel)) <|
    zall_c (zs_iaload20 X (pc := 1739) (by decide +kernel)) <|
    zall_c (zs_aload_n X (pc := 1740) (q := 3) rfl (by decide +kernel)) <|
    zall_c (zs_callSW X (pc := 1741) hNc (fun _ ht => zCSW ht gw_6_154 gw_1_0 gw_6_152 gw_6_153 rfl rfl (by decide +kernel) ⟨Nat.le_of_ble_eq_true rfl, Nat.le_of_ble_eq_true rfl⟩) (M_L_stateIf hl) (by decide +kernel)) <|
    zall_c (zs_istore X (pc := 1744) (by decide) (by decide +kernel)) <|
    zall_c (zs_aload_n X (pc := 1746) (q := 2) rfl (by decide +kernel)) <|
    zall_c (zs_aload_n X (pc := 1747) (q := 0) rfl (by decide +kernel)) <|
    zall_c (zs_iload X (pc := 1748) (by decide +kernel)) <|
    zall_c (zs_iconst X (pc := 1750) (by decide) (by decide +kernel)) <|
    zall_c (zs_iadd X (pc := 1751) (by decide +kernel)) <|
    zall_c (zs_iaload20 X (pc := 1752) (by decide +kernel)) <|
    zall_c (zs_aload_n X (pc := 1753) (q := 0) rfl (by decide +kernel)) <|
    zall_c (zs_iload X (pc := 1754) (by decide +kernel)) <|
    zall_c (zs_iconst X (pc := 1756) (by decide) (by decide +kernel)) <|
    zall_c (zs_iadd X (pc := 1757) (by decide +kernel)) <|
    zall_c (zs_iaload20 X (pc := 1758) (by decide +kernel)) <|
    zall_c (zs_aload_n X (pc := 1759) (q := 0) rfl (by decide +kernel)) <|
    zall_c (zs_iload X (pc := 1760) (by decide +kernel)) <|
    zall_c (zs_iconst X (pc := 1762) (by decide) (by decide +kernel)) <|
    zall_c (zs_iadd X (pc := 1763) (by decide +kernel)) <|
    zall_c (zs_iaload20 X (pc := 1764) (by decide +kernel)) <|
    zall_c (zs_callVt X (pc := 1765) zc_X9 (fun _ ht => ⟨(zCB ht gw_9_219 gw_1_13 gw_9_216 rfl rfl (by decide +kernel) ⟨Nat.le_of_ble_eq_true rfl, Nat.le_of_ble_eq_true rfl⟩), ht _ (.tail _ gw_9_217), ht _ (.tail _ gw_9_218)⟩) (M_X9_stateIf hl) (by decide +kernel)) <|
    zall_c (zs_istore X (pc := 1768) (by decide) (by decide +kernel)) <|
    zall_c (zs_aload_n X (pc := 1770) (q := 2) rfl (by decide +kernel)) <|
    zall_c (zs_callVt X (pc := 1771) zc_X9 (fun _ ht => ⟨(zCB ht gw_7_208 gw_1_13 gw_7_205 rfl rfl (by decide +kernel) ⟨Nat.le_of_ble_eq_true rfl, Nat.le_of_ble_eq_true rfl⟩), ht _ (.tail _ gw_7_206), ht _ (.tail _ gw_7_207)⟩) (M_X9_thrown hl) (by decide +kernel)) <|
    zall_c (zs_iload X (pc := 1774) (by decide +kernel)) <|
    zall_c (zs_icmp_eq X (pc := 1776) (off := 5) (by decide +kernel) (by decide)) <|
    zall_c (zs_iconst X (pc := 1779) (by decide) (by decide +kernel)) <|
    zall_c (zs_zret X (pc := 1780) rfl zR_bool (by decide +kernel)) <|
    zall_c (zs_iload X (pc := 1781) (by decide +kernel)) <|
    zall_c (zs_if_ne X (pc := 1783) (off := 15) (by decide +kernel) (by decide)) <|
    zall_c (zs_aload_n X (pc := 1786) (q := 3) rfl (by decide +kernel)) <|
    zall_c (zs_iconst X (pc := 1787) (by decide) (by decide +kernel)) <|
    zall_c (zs_laload23 X (pc := 1788) (by decide +kernel)) <|
    zall_c (zs_iload X (pc := 1789) (by decide +kernel)) <|
    zall_c (zs_i2l X (pc := 1791) (by decide +kernel)) <|
    zall_c (zs_lcmp X (pc := 1792) (by decide +kernel)) <|
    zall_c (zs_if_eq X (pc := 1793) (off := 5) (by decide +kernel) (by decide)) <|
    zall_c (zs_iconst X (pc := 1796) (by decide) (by decide +kernel)) <|
    zall_c (zs_zret X (pc := 1797) rfl zR_bool (by decide +kernel)) <|
    zall_c (zs_goto X (pc := 1798) (off := 1363) (by decide +kernel) (by decide)) <|
    zall_n
def cd_LW30 : List (Nat × ZTr) := [(1801, tAld 1 1802), (1802, tAld 0 1803), (1803, tIld 5 1805), (1805, tC (zi 1) 1806), (1806, tAdd 1807), (1807, tIal 20 1808), (1808, tAld 0 1809), (1809, tIld 5 1811), (1811, tC (zi 2) 1812), (1812, tAdd 1813), (1813, tIal 20 1814), (1814, tAld 0 1815), (1815, tIld 5 1817), (1817, tC (zi 3) 1818), (1818, tAdd 1819), (1819, tIal 20 1820), (1820, tAld 0 1821), (1821, tIld 5 1823), (1823, tC (zi 4) 1824), (1824, tAdd 1825), (1825, tIal 20 1826), (1826, tAld 3 1827), (1827, tCall 6 5 30 (fun av M K _ => T_L_trustIf av M K) zAny 1830), (1830, tIst 6 1832), (1832, tAld 2 1833), (1833, tAld 0 1834), (1834, tIld 5 1836), (1836, tC (zi 1) 1837), (1837, tAdd 1838), (1838, tIal 20 1839), (1839, tAld 0 1840), (1840, tIld 5 1842), (1842, tC (zi 2) 1843), (1843, tAdd 1844), (1844, tIal 20 1845), (1845, tAld 0 1846), (1846, tIld 5 1848), (1848, tC (zi 3) 1849), (1849, tAdd 1850), (1850, tIal 20 1851), (1851, tAld 0 1852), (1852, tIld 5 1854), (1854, tC (zi 4) 1855), (1855, tAdd 1856), (1856, tIal 20 1857), (1857, tCall 5 0 0 (zNt T_X9_trustIf) (zRcv 12) 1860), (1860, tIst 7 1862), (1862, tAld 2 1863), (1863, tCall 1 0 0 (zNt T_X9_thrown) (zRcv 12) 1866), (1866, tIld 6 1868), (1868, tIc_eq 1873 1871), (1871, tC (zi 0) 1872), (1872, tRi zPz), (1873, tIld 6 1875), (1875, tIf_ne 1890 1878), (1878, tAld 3 1879), (1879, tC (zi 0) 1880), (1880, tLal 1881), (1881, tIld 7 1883), (1883, tI2l 1884), (1884, tLcmp 1885), (1885, tIf_eq 1890 1888), (1888, tC (zi 0) 1889), (1889, tRi zPz), (1890, tGo 3161)]
set_option maxRecDepth 100000 in
set_option maxHeartbeats 1500000 in
theorem hs_LW30 {l : Launch} (hl : l.stackTraces = false) (p : Program) (e : Env) (s : State) (m : MethodId) (args : Array Value) (below : List Frame) (meth : Method) (c : Code) (D : va_G) (A : Nat → Prop) (a0 : Nat → Nat) (M0 : ZM) (K : ZRet) (KX : ZEx) (mc ms : Nat) (X : zCtx p l room_1 s m args meth c code RL (Cond.initialized RX8 :: zG) 10 (Option.some Jvm.ClassFile.FieldType.boolean) D A a0 M0 mc ms) (hNc : zNc0 s) : ∀ q ∈ cd_LW30, zSd p l e room_1 s m args below meth c 10 D A a0 M0 K KX mc ms q.1 q.2 :=
    zall_c (zs_aload_n X (pc := 1801) (q := 1) rfl (by decide +kernel)) <|
    zall_c (zs_aload_n X (pc := 1802) (q := 0) rfl (by decide +kernel)) <|
    zall_c (zs_iload X (pc := 1803) (by decide +kernel)) <|
    zall_c (zs_iconst X (pc := 1805) (by decide) (by decide +kernel)) <|
    zall_c (zs_iadd X (pc := 1806) (by decide +kernel)) <|
    zall_c (zs_iaload20 X (pc := 1807) (by decide +kernel)) <|
    zall_c (zs_aload_n X (pc := 1808) (q := 0) rfl (by decide +kernel)) <|
    zall_c (zs_iload X (pc := 1809) (by decide +kernel)) <|
    zall_c (zs_iconst X (pc := 1811) (by decide) (by decide +kernel)) <|
    zall_c (zs_iadd X (pc := 1812) (by decide +kernel)) <|
    zall_c (zs_iaload20 X (pc := 1813) (by decide +kernel)) <|
    zall_c (zs_aload_n X (pc := 1814) (q := 0) rfl (by decide +kernel)) <|
    zall_c (zs_iload X (pc := 1815) (by decide +kernel)) <|
    zall_c (zs_iconst X (pc := 1817) (by decide) (by decide +kernel)) <|
    zall_c (zs_iadd X (pc := 1818) (by decide +kernel)) <|
    zall_c (zs_iaload20 X (pc := 1819) (by decide +kernel)) <|
    zall_c (zs_aload_n X (pc := 1820) (q := 0) rfl (by decide +kernel)) <|
    zall_c (zs_iload X (pc := 1821) (by decide +kernel)) <|
    zall_c (zs_iconst X (pc := 1823) (by decide) (by decide +kernel)) <|
    zall_c (zs_iadd X (pc := 1824) (by decide +kernel)) <|
    zall_c (zs_iaload20 X (pc := 1825) (by decide +kernel)) <|
    zall_c (zs_aload_n X (pc := 1826) (q := 3) rfl (by decide +kernel)) <|
    zall_c (zs_callSW X (pc := 1827) hNc (fun _ ht => zCSW ht gw_6_188 gw_1_0 gw_6_186 gw_6_187 rfl rfl (by decide +kernel) ⟨Nat.le_of_ble_eq_true rfl, Nat.le_of_ble_eq_true rfl⟩) (M_L_trustIf hl) (by decide +kernel)) <|
    zall_c (zs_istore X (pc := 1830) (by decide) (by decide +kernel)) <|
    zall_c (zs_aload_n X (pc := 1832) (q := 2) rfl (by decide +kernel)) <|
    zall_c (zs_aload_n X (pc := 1833) (q := 0) rfl (by decide +kernel)) <|
    zall_c (zs_iload X (pc := 1834) (by decide +kernel)) <|
    zall_c (zs_iconst X (pc := 1836) (by decide) (by decide +kernel)) <|
    zall_c (zs_iadd X (pc := 1837) (by decide +kernel)) <|
    zall_c (zs_iaload20 X (pc := 1838) (by decide +kernel)) <|
    zall_c (zs_aload_n X (pc := 1839) (q := 0) rfl (by decide +kernel)) <|
    zall_c (zs_iload X (pc := 1840) (by decide +kernel)) <|
    zall_c (zs_iconst X (pc := 1842) (by decide) (by decide +kernel)) <|
    zall_c (zs_iadd X (pc := 1843) (by decide +kernel)) <|
    zall_c (zs_iaload20 X (pc := 1844) (by decide +kernel)) <|
    zall_c (zs_aload_n X (pc := 1845) (q := 0) rfl (by decide +kernel)) <|
    zall_c (zs_iload X (pc := 1846) (by decide +kernel)) <|
    zall_c (zs_iconst X (pc := 1848) (by decide) (by decide +kernel)) <|
    zall_c (zs_iadd X (pc := 1849) (by decide +kernel)) <|
    zall_c (zs_iaload20 X (pc := 1850) (by decide +kernel)) <|
    zall_c (zs_aload_n X (pc := 1851) (q := 0) rfl (by decide +kernel)) <|
    zall_c (zs_iload X (pc := 1852) (by decide +kernel)) <|
    zall_c (zs_iconst X (pc := 1854) (by decide) (by decide +kernel)) <|
    zall_c (zs_iadd X (pc := 1855) (by decide +kernel)) <|
    zall_c (zs_iaload20 X (pc := 1856) (by decide +kernel)) <|
    zall_c (zs_callVt X (pc := 1857) zc_X9 (fun _ ht => ⟨(zCB ht gw_10_30 gw_1_13 gw_10_27 rfl rfl (by decide +kernel) ⟨Nat.le_of_ble_eq_true rfl, Nat.le_of_ble_eq_true rfl⟩), ht _ (.tail _ gw_10_28), ht _ (.tail _ gw_10_29)⟩) (M_X9_trustIf hl) (by decide +kernel)) <|
    zall_c (zs_istore X (pc := 1860) (by decide) (by decide +kernel)) <|
    zall_c (zs_aload_n X (pc := 1862) (q := 2) rfl (by decide +kernel)) <|
    zall_c (zs_callVt X (pc := 1863) zc_X9 (fun _ ht => ⟨(zCB ht gw_7_208 gw_1_13 gw_7_205 rfl rfl (by decide +kernel) ⟨Nat.le_of_ble_eq_true rfl, Nat.le_of_ble_eq_true rfl⟩), ht _ (.tail _ gw_7_206), ht _ (.tail _ gw_7_207)⟩) (M_X9_thrown hl) (by decide +kernel)) <|
    zall_c (zs_iload X (pc := 1866) (by decide +kernel)) <|
    zall_c (zs_icmp_eq X (pc := 1868) (off := 5) (by decide +kernel) (by decide)) <|
    zall_c (zs_iconst X (pc := 1871) (by decide) (by decide +kernel)) <|
    zall_c (zs_zret X (pc := 1872) rfl zR_bool (by decide +kernel)) <|
    zall_c (zs_iload X (pc := 1873) (by decide +kernel)) <|
    zall_c (zs_if_ne X (pc := 1875) (off := 15) (by decide +kernel) (by decide)) <|
    zall_c (zs_aload_n X (pc := 1878) (q := 3) rfl (by decide +kernel)) <|
    zall_c (zs_iconst X (pc := 1879) (by decide) (by decide +kernel)) <|
    zall_c (zs_laload23 X (pc := 1880) (by decide +kernel)) <|
    zall_c (zs_iload X (pc := 1881) (by decide +kernel)) <|
    zall_c (zs_i2l X (pc := 1883) (by decide +kernel)) <|
    zall_c (zs_lcmp X (pc := 1884) (by decide +kernel)) <|
    zall_c (zs_if_eq X (pc := 1885) (off := 5) (by decide +kernel) (by decide)) <|
    zall_c (zs_iconst X (pc := 1888) (by decide) (by decide +kernel)) <|
    zall_c (zs_zret X (pc := 1889) rfl zR_bool (by decide +kernel)) <|
    zall_c (zs_goto X (pc := 1890) (off := 1271) (by decide +kernel) (by decide)) <|
    zall_n
def cd_LW31 : List (Nat × ZTr) := [(1893, tAld 1 1894), (1894, tAld 0 1895), (1895, tIld 5 1897), (1897, tC (zi 1) 1898), (1898, tAdd 1899), (1899, tIal 20 1900), (1900, tAld 0 1901), (1901, tIld 5 1903), (1903, tC (zi 2) 1904), (1904, tAdd 1905), (1905, tIal 20 1906), (1906, tAld 3 1907), (1907, tCall 4 3 18 (fun av M K _ => T_L_finishing av M K) zAny 1910), (1910, tIst 6 1912), (1912, tAld 2 1913), (1913, tAld 0 1914), (1914, tIld 5 1916), (1916, tC (zi 1) 1917), (1917, tAdd 1918), (1918, tIal 20 1919), (1919, tAld 0 1920), (1920, tIld 5 1922), (1922, tC (zi 2) 1923), (1923, tAdd 1924), (1924, tIal 20 1925), (1925, tCall 3 0 0 (zNt T_X9_finishing) (zRcv 12) 1928), (1928, tIst 7 1930), (1930, tAld 2 1931), (1931, tCall 1 0 0 (zNt T_X9_thrown) (zRcv 12) 1934), (1934, tIld 6 1936), (1936, tIc_eq 1941 1939), (1939, tC (zi 0) 1940), (1940, tRi zPz), (1941, tIld 6 1943), (1943, tIf_ne 1958 1946), (1946, tAld 3 1947), (1947, tC (zi 0) 1948), (1948, tLal 1949), (1949, tIld 7 1951), (1951, tI2l 1952), (1952, tLcmp 1953), (1953, tIf_eq 1958 1956), (1956, tC (zi 0) 1957), (1957, tRi zPz), (1958, tGo 3161)]
set_option maxRecDepth 100000 in
set_option maxHeartbeats 1500000 in
theorem hs_LW31 {l : Launch} (hl : l.stackTraces = false) (p : Program) (e : Env) (s : State) (m : MethodId) (args : Array Value) (below : List Frame) (meth : Method) (c : Code) (D : va_G) (A : Nat → Prop) (a0 : Nat → Nat) (M0 : ZM) (K : ZRet) (KX : ZEx) (mc ms : Nat) (X : zCtx p l room_1 s m args meth c code RL (Cond.initialized RX8 :: zG) 10 (Option.some Jvm.ClassFile.FieldType.boolean) D A a0 M0 mc ms) (hNc : zNc0 s) : ∀ q ∈ cd_LW31, zSd p l e room_1 s m args below meth c 10 D A a0 M0 K KX mc ms q.1 q.2 :=
    zall_c (zs_aload_n X (pc := 1893) (q := 1) rfl (by decide +kernel)) <|
    zall_c (zs_aload_n X (pc := 1894) (q := 0) rfl (by decide +kernel)) <|
    zall_c (zs_iload X (pc := 1895) (by decide +kernel)) <|
    zall_c (zs_iconst X (pc := 1897) (by decide) (by decide +kernel)) <|
    zall_c (zs_iadd X (pc := 1898) (by decide +kernel)) <|
    zall_c (zs_iaload20 X (pc := 1899) (by decide +kernel)) <|
    zall_c (zs_aload_n X (pc := 1900) (q := 0) rfl (by decide +kernel)) <|
    zall_c (zs_iload X (pc := 1901) (by decide +kernel)) <|
    zall_c (zs_iconst X (pc := 1903) (by decide) (by decide +kernel)) <|
    zall_c (zs_iadd X (pc := 1904) (by decide +kernel)) <|
    zall_c (zs_iaload20 X (pc := 1905) (by decide +kernel)) <|
    zall_c (zs_aload_n X (pc := 1906) (q := 3) rfl (by decide +kernel)) <|
    zall_c (zs_callSW X (pc := 1907) hNc (fun _ ht => zCSW ht gw_6_200 gw_1_0 gw_6_198 gw_6_199 rfl rfl (by decide +kernel) ⟨Nat.le_of_ble_eq_true rfl, Nat.le_of_ble_eq_true rfl⟩) (M_L_finishing hl) (by decide +kernel)) <|
    zall_c (zs_istore X (pc := 1910) (by decide) (by decide +kernel)) <|
    zall_c (zs_aload_n X (pc := 1912) (q := 2) rfl (by decide +kernel)) <|
    zall_c (zs_aload_n X (pc := 1913) (q := 0) rfl (by decide +kernel)) <|
    zall_c (zs_iload X (pc := 1914) (by decide +kernel)) <|
    zall_c (zs_iconst X (pc := 1916) (by decide) (by decide +kernel)) <|
    zall_c (zs_iadd X (pc := 1917) (by decide +kernel)) <|
    zall_c (zs_iaload20 X (pc := 1918) (by decide +kernel)) <|
    zall_c (zs_aload_n X (pc := 1919) (q := 0) rfl (by decide +kernel)) <|
    zall_c (zs_iload X (pc := 1920) (by decide +kernel)) <|
    zall_c (zs_iconst X (pc := 1922) (by decide) (by decide +kernel)) <|
    zall_c (zs_iadd X (pc := 1923) (by decide +kernel)) <|
    zall_c (zs_iaload20 X (pc := 1924) (by decide +kernel)) <|
    zall_c (zs_callVt X (pc := 1925) zc_X9 (fun _ ht => ⟨(zCB ht gw_10_34 gw_1_13 gw_10_31 rfl rfl (by decide +kernel) ⟨Nat.le_of_ble_eq_true rfl, Nat.le_of_ble_eq_true rfl⟩), ht _ (.tail _ gw_10_32), ht _ (.tail _ gw_10_33)⟩) (M_X9_finishing hl) (by decide +kernel)) <|
    zall_c (zs_istore X (pc := 1928) (by decide) (by decide +kernel)) <|
    zall_c (zs_aload_n X (pc := 1930) (q := 2) rfl (by decide +kernel)) <|
    zall_c (zs_callVt X (pc := 1931) zc_X9 (fun _ ht => ⟨(zCB ht gw_7_208 gw_1_13 gw_7_205 rfl rfl (by decide +kernel) ⟨Nat.le_of_ble_eq_true rfl, Nat.le_of_ble_eq_true rfl⟩), ht _ (.tail _ gw_7_206), ht _ (.tail _ gw_7_207)⟩) (M_X9_thrown hl) (by decide +kernel)) <|
    zall_c (zs_iload X (pc := 1934) (by decide +kernel)) <|
    zall_c (zs_icmp_eq X (pc := 1936) (off := 5) (by decide +kernel) (by decide)) <|
    zall_c (zs_iconst X (pc := 1939) (by decide) (by decide +kernel)) <|
    zall_c (zs_zret X (pc := 1940) rfl zR_bool (by decide +kernel)) <|
    zall_c (zs_iload X (pc := 1941) (by decide +kernel)) <|
    zall_c (zs_if_ne X (pc := 1943) (off := 15) (by decide +kernel) (by decide)) <|
    zall_c (zs_aload_n X (pc := 1946) (q := 3) rfl (by decide +kernel)) <|
    zall_c (zs_iconst X (pc := 1947) (by decide) (by decide +kernel)) <|
    zall_c (zs_laload23 X (pc := 1948) (by decide +kernel)) <|
    zall_c (zs_iload X (pc := 1949) (by decide +kernel)) <|
    zall_c (zs_i2l X (pc := 1951) (by decide +kernel)) <|
    zall_c (zs_lcmp X (pc := 1952) (by decide +kernel)) <|
    zall_c (zs_if_eq X (pc := 1953) (off := 5) (by decide +kernel) (by decide)) <|
    zall_c (zs_iconst X (pc := 1956) (by decide) (by decide +kernel)) <|
    zall_c (zs_zret X (pc := 1957) rfl zR_bool (by decide +kernel)) <|
    zall_c (zs_goto X (pc := 1958) (off := 1203) (by decide +kernel) (by decide)) <|
    zall_n
def cd_LW32 : List (Nat × ZTr) := [(1961, tAld 1 1962), (1962, tCall 1 0 0 (zNt T_X8_lost) (zRcv 11) 1965), (1965, tAld 2 1966), (1966, tCall 1 0 0 (zNt T_X9_lost) (zRcv 12) 1969), (1969, tIc_eq 3161 1972), (1972, tC (zi 0) 1973), (1973, tRi zPz)]
set_option maxRecDepth 100000 in
set_option maxHeartbeats 1500000 in
theorem hs_LW32 {l : Launch} (hl : l.stackTraces = false) (p : Program) (e : Env) (s : State) (m : MethodId) (args : Array Value) (below : List Frame) (meth : Method) (c : Code) (D : va_G) (A : Nat → Prop) (a0 : Nat → Nat) (M0 : ZM) (K : ZRet) (KX : ZEx) (mc ms : Nat) (X : zCtx p l room_1 s m args meth c code RL (Cond.initialized RX8 :: zG) 10 (Option.some Jvm.ClassFile.FieldType.boolean) D A a0 M0 mc ms) (hNc : zNc0 s) : ∀ q ∈ cd_LW32, zSd p l e room_1 s m args below meth c 10 D A a0 M0 K KX mc ms q.1 q.2 :=
    zall_c (zs_aload_n X (pc := 1961) (q := 1) rfl (by decide +kernel)) <|
    zall_c (zs_callVt X (pc := 1962) zc_X8 (fun _ ht => ⟨(zCB ht gw_5_90 gw_1_1 gw_5_87 rfl rfl (by decide +kernel) ⟨Nat.le_of_ble_eq_true rfl, Nat.le_of_ble_eq_true rfl⟩), ht _ (.tail _ gw_5_88), ht _ (.tail _ gw_5_89)⟩) (M_X8_lost hl) (by decide +kernel)) <|
    zall_c (zs_aload_n X (pc := 1965) (q := 2) rfl (by decide +kernel)) <|
    zall_c (zs_callVt X (pc := 1966) zc_X9 (fun _ ht => ⟨(zCB ht gw_10_38 gw_1_13 gw_10_35 rfl rfl (by decide +kernel) ⟨Nat.le_of_ble_eq_true rfl, Nat.le_of_ble_eq_true rfl⟩), ht _ (.tail _ gw_10_36), ht _ (.tail _ gw_10_37)⟩) (M_X9_lost hl) (by decide +kernel)) <|
    zall_c (zs_icmp_eq X (pc := 1969) (off := 1192) (by decide +kernel) (by decide)) <|
    zall_c (zs_iconst X (pc := 1972) (by decide) (by decide +kernel)) <|
    zall_c (zs_zret X (pc := 1973) rfl zR_bool (by decide +kernel)) <|
    zall_n
def cd_LW33 : List (Nat × ZTr) := [(1974, tAld 1 1975), (1975, tAld 0 1976), (1976, tIld 5 1978), (1978, tC (zi 1) 1979), (1979, tAdd 1980), (1980, tIal 20 1981), (1981, tAld 3 1982), (1982, tCall 3 1 6 (fun av M K _ => T_L_finishedOf av M K) zAny 1985), (1985, tIst 6 1987), (1987, tAld 2 1988), (1988, tAld 0 1989), (1989, tIld 5 1991), (1991, tC (zi 1) 1992), (1992, tAdd 1993), (1993, tIal 20 1994), (1994, tCall 2 0 0 (zNt T_X9_finishedOf) (zRcv 12) 1997), (1997, tIst 7 1999), (1999, tAld 2 2000), (2000, tCall 1 0 0 (zNt T_X9_thrown) (zRcv 12) 2003), (2003, tIld 6 2005), (2005, tIc_eq 2010 2008), (2008, tC (zi 0) 2009), (2009, tRi zPz), (2010, tIld 6 2012), (2012, tIf_ne 2027 2015), (2015, tAld 3 2016), (2016, tC (zi 0) 2017), (2017, tLal 2018), (2018, tIld 7 2020), (2020, tI2l 2021), (2021, tLcmp 2022), (2022, tIf_eq 2027 2025), (2025, tC (zi 0) 2026), (2026, tRi zPz), (2027, tGo 3161)]
set_option maxRecDepth 100000 in
set_option maxHeartbeats 1500000 in
theorem hs_LW33 {l : Launch} (hl : l.stackTraces = false) (p : Program) (e : Env) (s : State) (m : MethodId) (args : Array Value) (below : List Frame) (meth : Method) (c : Code) (D : va_G) (A : Nat → Prop) (a0 : Nat → Nat) (M0 : ZM) (K : ZRet) (KX : ZEx) (mc ms : Nat) (X : zCtx p l room_1 s m args meth c code RL (Cond.initialized RX8 :: zG) 10 (Option.some Jvm.ClassFile.FieldType.boolean) D A a0 M0 mc ms) (hNc : zNc0 s) : ∀ q ∈ cd_LW33, zSd p l e room_1 s m args below meth c 10 D A a0 M0 K KX mc ms q.1 q.2 :=
    zall_c (zs_aload_n X (pc := 1974) (q := 1) rfl (by decide +kernel)) <|
    zall_c (zs_aload_n X (pc := 1975) (q := 0) rfl (by decide +kernel)) <|
    zall_c (zs_iload X (pc := 1976) (by decide +kernel)) <|
    zall_c (zs_iconst X (pc := 1978) (by decide) (by decide +kernel)) <|
    zall_c (zs_iadd X (pc := 1979) (by decide +kernel)) <|
    zall_c (zs_iaload20 X (pc := 1980) (by decide +kernel)) <|
    zall_c (zs_aload_n X (pc := 1981) (q := 3) rfl (by decide +kernel)) <|
    zall_c (zs_callSW X (pc := 1982) hNc (fun _ ht => zCSW ht gw_6_207 gw_1_0 gw_6_205 gw_6_206 rfl rfl (by decide +kernel) ⟨Nat.le_of_ble_eq_true rfl, Nat.le_of_ble_eq_true rfl⟩) (M_L_finishedOf hl) (by decide +kernel)) <|
    zall_c (zs_istore X (pc := 1985) (by decide) (by decide +kernel)) <|
    zall_c (zs_aload_n X (pc := 1987) (q := 2) rfl (by decide +kernel)) <|
    zall_c (zs_aload_n X (pc := 1988) (q := 0) rfl (by decide +kernel)) <|
    zall_c (zs_iload X (pc := 1989) (by decide +kernel)) <|
    zall_c (zs_iconst X (pc := 1991) (by decide) (by decide +kernel)) <|
    zall_c (zs_iadd X (pc := 1992) (by decide +kernel)) <|
    zall_c (zs_iaload20 X (pc := 1993) (by decide +kernel)) <|
    zall_c (zs_callVt X (pc := 1994) zc_X9 (fun _ ht => ⟨(zCB ht gw_10_42 gw_1_13 gw_10_39 rfl rfl (by decide +kernel) ⟨Nat.le_of_ble_eq_true rfl, Nat.le_of_ble_eq_true rfl⟩), ht _ (.tail _ gw_10_40), ht _ (.tail _ gw_10_41)⟩) (M_X9_finishedOf hl) (by decide +kernel)) <|
    zall_c (zs_istore X (pc := 1997) (by decide) (by decide +kernel)) <|
    zall_c (zs_aload_n X (pc := 1999) (q := 2) rfl (by decide +kernel)) <|
    zall_c (zs_callVt X (pc := 2000) zc_X9 (fun _ ht => ⟨(zCB ht gw_7_208 gw_1_13 gw_7_205 rfl rfl (by decide +kernel) ⟨Nat.le_of_ble_eq_true rfl, Nat.le_of_ble_eq_true rfl⟩), ht _ (.tail _ gw_7_206), ht _ (.tail _ gw_7_207)⟩) (M_X9_thrown hl) (by decide +kernel)) <|
    zall_c (zs_iload X (pc := 2003) (by decide +kernel)) <|
    zall_c (zs_icmp_eq X (pc := 2005) (off := 5) (by decide +kernel) (by decide)) <|
    zall_c (zs_iconst X (pc := 2008) (by decide) (by decide +kernel)) <|
    zall_c (zs_zret X (pc := 2009) rfl zR_bool (by decide +kernel)) <|
    zall_c (zs_iload X (pc := 2010) (by decide +kernel)) <|
    zall_c (zs_if_ne X (pc := 2012) (off := 15) (by decide +kernel) (by decide)) <|
    zall_c (zs_aload_n X (pc := 2015) (q := 3) rfl (by decide +kernel)) <|
    zall_c (zs_iconst X (pc := 2016) (by decide) (by decide +kernel)) <|
    zall_c (zs_laload23 X (pc := 2017) (by decide +kernel)) <|
    zall_c (zs_iload X (pc := 2018) (by decide +kernel)) <|
    zall_c (zs_i2l X (pc := 2020) (by decide +kernel)) <|
    zall_c (zs_lcmp X (pc := 2021) (by decide +kernel)) <|
    zall_c (zs_if_eq X (pc := 2022) (off := 5) (by decide +kernel) (by decide)) <|
    zall_c (zs_iconst X (pc := 2025) (by decide) (by decide +kernel)) <|
    zall_c (zs_zret X (pc := 2026) rfl zR_bool (by decide +kernel)) <|
    zall_c (zs_goto X (pc := 2027) (off := 1134) (by decide +kernel) (by decide)) <|
    zall_n
def cd_LW34 : List (Nat × ZTr) := [(2030, tAld 1 2031), (2031, tCall 1 0 0 (zNt T_X8_left) (zRcv 11) 2034), (2034, tAld 2 2035), (2035, tCall 1 0 0 (zNt T_X9_left) (zRcv 12) 2038), (2038, tIc_eq 3161 2041), (2041, tC (zi 0) 2042), (2042, tRi zPz)]
set_option maxRecDepth 100000 in
set_option maxHeartbeats 1500000 in
theorem hs_LW34 {l : Launch} (hl : l.stackTraces = false) (p : Program) (e : Env) (s : State) (m : MethodId) (args : Array Value) (below : List Frame) (meth : Method) (c : Code) (D : va_G) (A : Nat → Prop) (a0 : Nat → Nat) (M0 : ZM) (K : ZRet) (KX : ZEx) (mc ms : Nat) (X : zCtx p l room_1 s m args meth c code RL (Cond.initialized RX8 :: zG) 10 (Option.some Jvm.ClassFile.FieldType.boolean) D A a0 M0 mc ms) (hNc : zNc0 s) : ∀ q ∈ cd_LW34, zSd p l e room_1 s m args below meth c 10 D A a0 M0 K KX mc ms q.1 q.2 :=
    zall_c (zs_aload_n X (pc := 2030) (q := 1) rfl (by decide +kernel)) <|
    zall_c (zs_callVt X (pc := 2031) zc_X8 (fun _ ht => ⟨(zCB ht gw_5_98 gw_1_1 gw_5_95 rfl rfl (by decide +kernel) ⟨Nat.le_of_ble_eq_true rfl, Nat.le_of_ble_eq_true rfl⟩), ht _ (.tail _ gw_5_96), ht _ (.tail _ gw_5_97)⟩) (M_X8_left hl) (by decide +kernel)) <|
    zall_c (zs_aload_n X (pc := 2034) (q := 2) rfl (by decide +kernel)) <|
    zall_c (zs_callVt X (pc := 2035) zc_X9 (fun _ ht => ⟨(zCB ht gw_10_47 gw_1_13 gw_10_44 rfl rfl (by decide +kernel) ⟨Nat.le_of_ble_eq_true rfl, Nat.le_of_ble_eq_true rfl⟩), ht _ (.tail _ gw_10_45), ht _ (.tail _ gw_10_46)⟩) (M_X9_left hl) (by decide +kernel)) <|
    zall_c (zs_icmp_eq X (pc := 2038) (off := 1123) (by decide +kernel) (by decide)) <|
    zall_c (zs_iconst X (pc := 2041) (by decide) (by decide +kernel)) <|
    zall_c (zs_zret X (pc := 2042) rfl zR_bool (by decide +kernel)) <|
    zall_n
def cd_LW35 : List (Nat × ZTr) := [(2043, tAld 1 2044), (2044, tCall 1 0 0 (zNt T_X8_leader) (zRcv 11) 2047), (2047, tAld 2 2048), (2048, tCall 1 0 0 (zNt T_X9_leader) (zRcv 12) 2051), (2051, tIc_eq 3161 2054), (2054, tC (zi 0) 2055), (2055, tRi zPz)]
set_option maxRecDepth 100000 in
set_option maxHeartbeats 1500000 in
theorem hs_LW35 {l : Launch} (hl : l.stackTraces = false) (p : Program) (e : Env) (s : State) (m : MethodId) (args : Array Value) (below : List Frame) (meth : Method) (c : Code) (D : va_G) (A : Nat → Prop) (a0 : Nat → Nat) (M0 : ZM) (K : ZRet) (KX : ZEx) (mc ms : Nat) (X : zCtx p l room_1 s m args meth c code RL (Cond.initialized RX8 :: zG) 10 (Option.some Jvm.ClassFile.FieldType.boolean) D A a0 M0 mc ms) (hNc : zNc0 s) : ∀ q ∈ cd_LW35, zSd p l e room_1 s m args below meth c 10 D A a0 M0 K KX mc ms q.1 q.2 :=
    zall_c (zs_aload_n X (pc := 2043) (q := 1) rfl (by decide +kernel)) <|
    zall_c (zs_callVt X (pc := 2044) zc_X8 (fun _ ht => ⟨(zCB ht gw_5_103 gw_1_1 gw_5_100 rfl rfl (by decide +kernel) ⟨Nat.le_of_ble_eq_true rfl, Nat.le_of_ble_eq_true rfl⟩), ht _ (.tail _ gw_5_101), ht _ (.tail _ gw_5_102)⟩) (M_X8_leader hl) (by decide +kernel)) <|
    zall_c (zs_aload_n X (pc := 2047) (q := 2) rfl (by decide +kernel)) <|
    zall_c (zs_callVt X (pc := 2048) zc_X9 (fun _ ht => ⟨(zCB ht gw_10_51 gw_1_13 gw_10_48 rfl rfl (by decide +kernel) ⟨Nat.le_of_ble_eq_true rfl, Nat.le_of_ble_eq_true rfl⟩), ht _ (.tail _ gw_10_49), ht _ (.tail _ gw_10_50)⟩) (M_X9_leader hl) (by decide +kernel)) <|
    zall_c (zs_icmp_eq X (pc := 2051) (off := 1110) (by decide +kernel) (by decide)) <|
    zall_c (zs_iconst X (pc := 2054) (by decide) (by decide +kernel)) <|
    zall_c (zs_zret X (pc := 2055) rfl zR_bool (by decide +kernel)) <|
    zall_n
