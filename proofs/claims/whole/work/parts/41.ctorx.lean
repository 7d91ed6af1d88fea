section CTORX
def cx_104 : List (Option hE) := [some (.inr (6, dfX6)), none, none, none, none, none, none, none, none, none, none, none, none, none, none, none, none, none, none, none, none, none, none, none, none, none]
def cx_105 : List (Option hE) := [some (.inr (6, dfX6)), some (.inl (.object RX4, 8, .inr (.inr (.inr (.inr (fun _ => none)))))), none, none, none, none, none, none, none, none, none, none, none, none, none, none, none, none, none, none, none, none, none, none, none, none]
def cxf_106_0 : List Value := [.ref 1, .int 0, .null, .int 0, .null, .int 0, .null, .null, .null, .null, .null, .int 0, .null, .null, .null, .null, .int 0]
def cx_106 : List (Option hE) := [some (.inr (6, cxf_106_0)), some (.inl (.object RX4, 8, .inr (.inr (.inr (.inr (fun _ => none)))))), none, none, none, none, none, none, none, none, none, none, none, none, none, none, none, none, none, none, none, none, none, none, none, none]
def cx_107 : List (Option hE) := [some (.inr (6, cxf_106_0)), some (.inl (.object RX4, 8, .inr (.inr (.inr (.inr (fun _ => none)))))), some (.inl (.object RX1, 30, .inr (.inr (.inr (.inr (fun _ => none)))))), none, none, none, none, none, none, none, none, none, none, none, none, none, none, none, none, none, none, none, none, none, none, none]
def cxf_108_0 : List Value := [.ref 1, .int 0, .ref 2, .int 0, .null, .int 0, .null, .null, .null, .null, .null, .int 0, .null, .null, .null, .null, .int 0]
def cx_108 : List (Option hE) := [some (.inr (6, cxf_108_0)), some (.inl (.object RX4, 8, .inr (.inr (.inr (.inr (fun _ => none)))))), some (.inl (.object RX1, 30, .inr (.inr (.inr (.inr (fun _ => none)))))), none, none, none, none, none, none, none, none, none, none, none, none, none, none, none, none, none, none, none, none, none, none, none]
def cx_109 : List (Option hE) := [some (.inr (6, cxf_108_0)), some (.inl (.object RX4, 8, .inr (.inr (.inr (.inr (fun _ => none)))))), some (.inl (.object RX1, 30, .inr (.inr (.inr (.inr (fun _ => none)))))), some (.inl (.object RX2, 10, .inr (.inr (.inr (.inr (fun _ => none)))))), none, none, none, none, none, none, none, none, none, none, none, none, none, none, none, none, none, none, none, none, none, none]
def cxf_110_0 : List Value := [.ref 1, .int 0, .ref 2, .int 0, .ref 3, .int 0, .null, .null, .null, .null, .null, .int 0, .null, .null, .null, .null, .int 0]
def cx_110 : List (Option hE) := [some (.inr (6, cxf_110_0)), some (.inl (.object RX4, 8, .inr (.inr (.inr (.inr (fun _ => none)))))), some (.inl (.object RX1, 30, .inr (.inr (.inr (.inr (fun _ => none)))))), some (.inl (.object RX2, 10, .inr (.inr (.inr (.inr (fun _ => none)))))), none, none, none, none, none, none, none, none, none, none, none, none, none, none, none, none, none, none, none, none, none, none]
def cx_111 : List (Option hE) := [some (.inr (6, cxf_110_0)), some (.inl (.object RX4, 8, .inr (.inr (.inr (.inr (fun _ => none)))))), some (.inl (.object RX1, 30, .inr (.inr (.inr (.inr (fun _ => none)))))), some (.inl (.object RX2, 10, .inr (.inr (.inr (.inr (fun _ => none)))))), none, none, none, none, none, none, none, some (.inr (5, dfX5)), none, none, none, none, none, none, none, none, none, none, none, none, none, none]
def cx_112 : List (Option hE) := [some (.inr (6, cxf_110_0)), some (.inl (.object RX4, 8, .inr (.inr (.inr (.inr (fun _ => none)))))), some (.inl (.object RX1, 30, .inr (.inr (.inr (.inr (fun _ => none)))))), some (.inl (.object RX2, 10, .inr (.inr (.inr (.inr (fun _ => none)))))), none, none, none, none, none, none, none, some (.inr (5, dfX5)), some (.inl (.int, 8, .inl (fun _ => 0))), none, none, none, none, none, none, none, none, none, none, none, none, none]
def cxf_113_11 : List Value := [.ref 12, .null, .int 0, .null, .int 0]
def cx_113 : List (Option hE) := [some (.inr (6, cxf_110_0)), some (.inl (.object RX4, 8, .inr (.inr (.inr (.inr (fun _ => none)))))), some (.inl (.object RX1, 30, .inr (.inr (.inr (.inr (fun _ => none)))))), some (.inl (.object RX2, 10, .inr (.inr (.inr (.inr (fun _ => none)))))), none, none, none, none, none, none, none, some (.inr (5, cxf_113_11)), some (.inl (.int, 8, .inl (fun _ => 0))), none, none, none, none, none, none, none, none, none, none, none, none, none]
def cx_114 : List (Option hE) := [some (.inr (6, cxf_110_0)), some (.inl (.object RX4, 8, .inr (.inr (.inr (.inr (fun _ => none)))))), some (.inl (.object RX1, 30, .inr (.inr (.inr (.inr (fun _ => none)))))), some (.inl (.object RX2, 10, .inr (.inr (.inr (.inr (fun _ => none)))))), none, none, none, none, none, none, none, some (.inr (5, cxf_113_11)), some (.inl (.int, 8, .inl (fun _ => 0))), some (.inl (.int, 8, .inl (fun _ => 0))), none, none, none, none, none, none, none, none, none, none, none, none]
def cxf_115_11 : List Value := [.ref 12, .ref 13, .int 0, .null, .int 0]
def cx_115 : List (Option hE) := [some (.inr (6, cxf_110_0)), some (.inl (.object RX4, 8, .inr (.inr (.inr (.inr (fun _ => none)))))), some (.inl (.object RX1, 30, .inr (.inr (.inr (.inr (fun _ => none)))))), some (.inl (.object RX2, 10, .inr (.inr (.inr (.inr (fun _ => none)))))), none, none, none, none, none, none, none, some (.inr (5, cxf_115_11)), some (.inl (.int, 8, .inl (fun _ => 0))), some (.inl (.int, 8, .inl (fun _ => 0))), none, none, none, none, none, none, none, none, none, none, none, none]
def cx_116 : List (Option hE) := [some (.inr (6, cxf_110_0)), some (.inl (.object RX4, 8, .inr (.inr (.inr (.inr (fun _ => none)))))), some (.inl (.object RX1, 30, .inr (.inr (.inr (.inr (fun _ => none)))))), some (.inl (.object RX2, 10, .inr (.inr (.inr (.inr (fun _ => none)))))), none, none, none, none, none, none, none, some (.inr (5, cxf_115_11)), some (.inl (.int, 8, .inl (fun _ => 0))), some (.inl (.int, 8, .inl (fun _ => 0))), some (.inl (.byte, 160, .inl (fun _ => 0))), none, none, none, none, none, none, none, none, none, none, none]
def cxf_117_11 : List Value := [.ref 12, .ref 13, .int 0, .ref 14, .int 0]
def cx_117 : List (Option hE) := [some (.inr (6, cxf_110_0)), some (.inl (.object RX4, 8, .inr (.inr (.inr (.inr (fun _ => none)))))), some (.inl (.object RX1, 30, .inr (.inr (.inr (.inr (fun _ => none)))))), some (.inl (.object RX2, 10, .inr (.inr (.inr (.inr (fun _ => none)))))), none, none, none, none, none, none, none, some (.inr (5, cxf_117_11)), some (.inl (.int, 8, .inl (fun _ => 0))), some (.inl (.int, 8, .inl (fun _ => 0))), some (.inl (.byte, 160, .inl (fun _ => 0))), none, none, none, none, none, none, none, none, none, none, none]
def cxf_118_0 : List Value := [.ref 1, .int 0, .ref 2, .int 0, .ref 3, .int 0, .ref 11, .null, .null, .null, .null, .int 0, .null, .null, .null, .null, .int 0]
def cx_118 : List (Option hE) := [some (.inr (6, cxf_118_0)), some (.inl (.object RX4, 8, .inr (.inr (.inr (.inr (fun _ => none)))))), some (.inl (.object RX1, 30, .inr (.inr (.inr (.inr (fun _ => none)))))), some (.inl (.object RX2, 10, .inr (.inr (.inr (.inr (fun _ => none)))))), none, none, none, none, none, none, none, some (.inr (5, cxf_117_11)), some (.inl (.int, 8, .inl (fun _ => 0))), some (.inl (.int, 8, .inl (fun _ => 0))), some (.inl (.byte, 160, .inl (fun _ => 0))), none, none, none, none, none, none, none, none, none, none, none]
def cx_119 : List (Option hE) := [some (.inr (6, cxf_118_0)), some (.inl (.object RX4, 8, .inr (.inr (.inr (.inr (fun _ => none)))))), some (.inl (.object RX1, 30, .inr (.inr (.inr (.inr (fun _ => none)))))), some (.inl (.object RX2, 10, .inr (.inr (.inr (.inr (fun _ => none)))))), some (.inl (.object RX3, 3, .inr (.inr (.inr (.inr (fun _ => none)))))), none, none, none, none, none, none, some (.inr (5, cxf_117_11)), some (.inl (.int, 8, .inl (fun _ => 0))), some (.inl (.int, 8, .inl (fun _ => 0))), some (.inl (.byte, 160, .inl (fun _ => 0))), none, none, none, none, none, none, none, none, none, none, none]
def cxf_120_0 : List Value := [.ref 1, .int 0, .ref 2, .int 0, .ref 3, .int 0, .ref 11, .ref 4, .null, .null, .null, .int 0, .null, .null, .null, .null, .int 0]
def cx_120 : List (Option hE) := [some (.inr (6, cxf_120_0)), some (.inl (.object RX4, 8, .inr (.inr (.inr (.inr (fun _ => none)))))), some (.inl (.object RX1, 30, .inr (.inr (.inr (.inr (fun _ => none)))))), some (.inl (.object RX2, 10, .inr (.inr (.inr (.inr (fun _ => none)))))), some (.inl (.object RX3, 3, .inr (.inr (.inr (.inr (fun _ => none)))))), none, none, none, none, none, none, some (.inr (5, cxf_117_11)), some (.inl (.int, 8, .inl (fun _ => 0))), some (.inl (.int, 8, .inl (fun _ => 0))), some (.inl (.byte, 160, .inl (fun _ => 0))), none, none, none, none, none, none, none, none, none, none, none]
def cx_121 : List (Option hE) := [some (.inr (6, cxf_120_0)), some (.inl (.object RX4, 8, .inr (.inr (.inr (.inr (fun _ => none)))))), some (.inl (.object RX1, 30, .inr (.inr (.inr (.inr (fun _ => none)))))), some (.inl (.object RX2, 10, .inr (.inr (.inr (.inr (fun _ => none)))))), some (.inl (.object RX3, 3, .inr (.inr (.inr (.inr (fun _ => none)))))), some (.inl (.int, 18, .inl (fun _ => 0))), none, none, none, none, none, some (.inr (5, cxf_117_11)), some (.inl (.int, 8, .inl (fun _ => 0))), some (.inl (.int, 8, .inl (fun _ => 0))), some (.inl (.byte, 160, .inl (fun _ => 0))), none, none, none, none, none, none, none, none, none, none, none]
def cxf_122_0 : List Value := [.ref 1, .int 0, .ref 2, .int 0, .ref 3, .int 0, .ref 11, .ref 4, .ref 5, .null, .null, .int 0, .null, .null, .null, .null, .int 0]
def cx_122 : List (Option hE) := [some (.inr (6, cxf_122_0)), some (.inl (.object RX4, 8, .inr (.inr (.inr (.inr (fun _ => none)))))), some (.inl (.object RX1, 30, .inr (.inr (.inr (.inr (fun _ => none)))))), some (.inl (.object RX2, 10, .inr (.inr (.inr (.inr (fun _ => none)))))), some (.inl (.object RX3, 3, .inr (.inr (.inr (.inr (fun _ => none)))))), some (.inl (.int, 18, .inl (fun _ => 0))), none, none, none, none, none, some (.inr (5, cxf_117_11)), some (.inl (.int, 8, .inl (fun _ => 0))), some (.inl (.int, 8, .inl (fun _ => 0))), some (.inl (.byte, 160, .inl (fun _ => 0))), none, none, none, none, none, none, none, none, none, none, none]
def cx_123 : List (Option hE) := [some (.inr (6, cxf_122_0)), some (.inl (.object RX4, 8, .inr (.inr (.inr (.inr (fun _ => none)))))), some (.inl (.object RX1, 30, .inr (.inr (.inr (.inr (fun _ => none)))))), some (.inl (.object RX2, 10, .inr (.inr (.inr (.inr (fun _ => none)))))), some (.inl (.object RX3, 3, .inr (.inr (.inr (.inr (fun _ => none)))))), some (.inl (.int, 18, .inl (fun _ => 0))), some (.inl (.long, 6, .inr (.inl (fun _ => 0)))), none, none, none, none, some (.inr (5, cxf_117_11)), some (.inl (.int, 8, .inl (fun _ => 0))), some (.inl (.int, 8, .inl (fun _ => 0))), some (.inl (.byte, 160, .inl (fun _ => 0))), none, none, none, none, none, none, none, none, none, none, none]
def cxf_124_0 : List Value := [.ref 1, .int 0, .ref 2, .int 0, .ref 3, .int 0, .ref 11, .ref 4, .ref 5, .ref 6, .null, .int 0, .null, .null, .null, .null, .int 0]
def cx_124 : List (Option hE) := [some (.inr (6, cxf_124_0)), some (.inl (.object RX4, 8, .inr (.inr (.inr (.inr (fun _ => none)))))), some (.inl (.object RX1, 30, .inr (.inr (.inr (.inr (fun _ => none)))))), some (.inl (.object RX2, 10, .inr (.inr (.inr (.inr (fun _ => none)))))), some (.inl (.object RX3, 3, .inr (.inr (.inr (.inr (fun _ => none)))))), some (.inl (.int, 18, .inl (fun _ => 0))), some (.inl (.long, 6, .inr (.inl (fun _ => 0)))), none, none, none, none, some (.inr (5, cxf_117_11)), some (.inl (.int, 8, .inl (fun _ => 0))), some (.inl (.int, 8, .inl (fun _ => 0))), some (.inl (.byte, 160, .inl (fun _ => 0))), none, none, none, none, none, none, none, none, none, none, none]
def cx_125 : List (Option hE) := [some (.inr (6, cxf_124_0)), some (.inl (.object RX4, 8, .inr (.inr (.inr (.inr (fun _ => none)))))), some (.inl (.object RX1, 30, .inr (.inr (.inr (.inr (fun _ => none)))))), some (.inl (.object RX2, 10, .inr (.inr (.inr (.inr (fun _ => none)))))), some (.inl (.object RX3, 3, .inr (.inr (.inr (.inr (fun _ => none)))))), some (.inl (.int, 18, .inl (fun _ => 0))), some (.inl (.long, 6, .inr (.inl (fun _ => 0)))), some (.inl (.int, 30, .inl (fun _ => 0))), none, none, none, some (.inr (5, cxf_117_11)), some (.inl (.int, 8, .inl (fun _ => 0))), some (.inl (.int, 8, .inl (fun _ => 0))), some (.inl (.byte, 160, .inl (fun _ => 0))), none, none, none, none, none, none, none, none, none, none, none]
def cxf_126_0 : List Value := [.ref 1, .int 0, .ref 2, .int 0, .ref 3, .int 0, .ref 11, .ref 4, .ref 5, .ref 6, .ref 7, .int 0, .null, .null, .null, .null, .int 0]
def cx_126 : List (Option hE) := [some (.inr (6, cxf_126_0)), some (.inl (.object RX4, 8, .inr (.inr (.inr (.inr (fun _ => none)))))), some (.inl (.object RX1, 30, .inr (.inr (.inr (.inr (fun _ => none)))))), some (.inl (.object RX2, 10, .inr (.inr (.inr (.inr (fun _ => none)))))), some (.inl (.object RX3, 3, .inr (.inr (.inr (.inr (fun _ => none)))))), some (.inl (.int, 18, .inl (fun _ => 0))), some (.inl (.long, 6, .inr (.inl (fun _ => 0)))), some (.inl (.int, 30, .inl (fun _ => 0))), none, none, none, some (.inr (5, cxf_117_11)), some (.inl (.int, 8, .inl (fun _ => 0))), some (.inl (.int, 8, .inl (fun _ => 0))), some (.inl (.byte, 160, .inl (fun _ => 0))), none, none, none, none, none, none, none, none, none, none, none]
def cx_127 : List (Option hE) := [some (.inr (6, cxf_126_0)), some (.inl (.object RX4, 8, .inr (.inr (.inr (.inr (fun _ => none)))))), some (.inl (.object RX1, 30, .inr (.inr (.inr (.inr (fun _ => none)))))), some (.inl (.object RX2, 10, .inr (.inr (.inr (.inr (fun _ => none)))))), some (.inl (.object RX3, 3, .inr (.inr (.inr (.inr (fun _ => none)))))), some (.inl (.int, 18, .inl (fun _ => 0))), some (.inl (.long, 6, .inr (.inl (fun _ => 0)))), some (.inl (.int, 30, .inl (fun _ => 0))), some (.inl (.int, 30, .inl (fun _ => 0))), none, none, some (.inr (5, cxf_117_11)), some (.inl (.int, 8, .inl (fun _ => 0))), some (.inl (.int, 8, .inl (fun _ => 0))), some (.inl (.byte, 160, .inl (fun _ => 0))), none, none, none, none, none, none, none, none, none, none, none]
def cxf_128_0 : List Value := [.ref 1, .int 0, .ref 2, .int 0, .ref 3, .int 0, .ref 11, .ref 4, .ref 5, .ref 6, .ref 7, .int 0, .ref 8, .null, .null, .null, .int 0]
def cx_128 : List (Option hE) := [some (.inr (6, cxf_128_0)), some (.inl (.object RX4, 8, .inr (.inr (.inr (.inr (fun _ => none)))))), some (.inl (.object RX1, 30, .inr (.inr (.inr (.inr (fun _ => none)))))), some (.inl (.object RX2, 10, .inr (.inr (.inr (.inr (fun _ => none)))))), some (.inl (.object RX3, 3, .inr (.inr (.inr (.inr (fun _ => none)))))), some (.inl (.int, 18, .inl (fun _ => 0))), some (.inl (.long, 6, .inr (.inl (fun _ => 0)))), some (.inl (.int, 30, .inl (fun _ => 0))), some (.inl (.int, 30, .inl (fun _ => 0))), none, none, some (.inr (5, cxf_117_11)), some (.inl (.int, 8, .inl (fun _ => 0))), some (.inl (.int, 8, .inl (fun _ => 0))), some (.inl (.byte, 160, .inl (fun _ => 0))), none, none, none, none, none, none, none, none, none, none, none]
def cx_129 : List (Option hE) := [some (.inr (6, cxf_128_0)), some (.inl (.object RX4, 8, .inr (.inr (.inr (.inr (fun _ => none)))))), some (.inl (.object RX1, 30, .inr (.inr (.inr (.inr (fun _ => none)))))), some (.inl (.object RX2, 10, .inr (.inr (.inr (.inr (fun _ => none)))))), some (.inl (.object RX3, 3, .inr (.inr (.inr (.inr (fun _ => none)))))), some (.inl (.int, 18, .inl (fun _ => 0))), some (.inl (.long, 6, .inr (.inl (fun _ => 0)))), some (.inl (.int, 30, .inl (fun _ => 0))), some (.inl (.int, 30, .inl (fun _ => 0))), some (.inl (.int, 3, .inl (fun _ => 0))), none, some (.inr (5, cxf_117_11)), some (.inl (.int, 8, .inl (fun _ => 0))), some (.inl (.int, 8, .inl (fun _ => 0))), some (.inl (.byte, 160, .inl (fun _ => 0))), none, none, none, none, none, none, none, none, none, none, none]
def cxf_130_0 : List Value := [.ref 1, .int 0, .ref 2, .int 0, .ref 3, .int 0, .ref 11, .ref 4, .ref 5, .ref 6, .ref 7, .int 0, .ref 8, .ref 9, .null, .null, .int 0]
def cx_130 : List (Option hE) := [some (.inr (6, cxf_130_0)), some (.inl (.object RX4, 8, .inr (.inr (.inr (.inr (fun _ => none)))))), some (.inl (.object RX1, 30, .inr (.inr (.inr (.inr (fun _ => none)))))), some (.inl (.object RX2, 10, .inr (.inr (.inr (.inr (fun _ => none)))))), some (.inl (.object RX3, 3, .inr (.inr (.inr (.inr (fun _ => none)))))), some (.inl (.int, 18, .inl (fun _ => 0))), some (.inl (.long, 6, .inr (.inl (fun _ => 0)))), some (.inl (.int, 30, .inl (fun _ => 0))), some (.inl (.int, 30, .inl (fun _ => 0))), some (.inl (.int, 3, .inl (fun _ => 0))), none, some (.inr (5, cxf_117_11)), some (.inl (.int, 8, .inl (fun _ => 0))), some (.inl (.int, 8, .inl (fun _ => 0))), some (.inl (.byte, 160, .inl (fun _ => 0))), none, none, none, none, none, none, none, none, none, none, none]
def cx_131 : List (Option hE) := [some (.inr (6, cxf_130_0)), some (.inl (.object RX4, 8, .inr (.inr (.inr (.inr (fun _ => none)))))), some (.inl (.object RX1, 30, .inr (.inr (.inr (.inr (fun _ => none)))))), some (.inl (.object RX2, 10, .inr (.inr (.inr (.inr (fun _ => none)))))), some (.inl (.object RX3, 3, .inr (.inr (.inr (.inr (fun _ => none)))))), some (.inl (.int, 18, .inl (fun _ => 0))), some (.inl (.long, 6, .inr (.inl (fun _ => 0)))), some (.inl (.int, 30, .inl (fun _ => 0))), some (.inl (.int, 30, .inl (fun _ => 0))), some (.inl (.int, 3, .inl (fun _ => 0))), some (.inl (.int, 6, .inl (fun _ => 0))), some (.inr (5, cxf_117_11)), some (.inl (.int, 8, .inl (fun _ => 0))), some (.inl (.int, 8, .inl (fun _ => 0))), some (.inl (.byte, 160, .inl (fun _ => 0))), none, none, none, none, none, none, none, none, none, none, none]
def cxf_132_0 : List Value := [.ref 1, .int 0, .ref 2, .int 0, .ref 3, .int 0, .ref 11, .ref 4, .ref 5, .ref 6, .ref 7, .int 0, .ref 8, .ref 9, .ref 10, .null, .int 0]
def cx_132 : List (Option hE) := [some (.inr (6, cxf_132_0)), some (.inl (.object RX4, 8, .inr (.inr (.inr (.inr (fun _ => none)))))), some (.inl (.object RX1, 30, .inr (.inr (.inr (.inr (fun _ => none)))))), some (.inl (.object RX2, 10, .inr (.inr (.inr (.inr (fun _ => none)))))), some (.inl (.object RX3, 3, .inr (.inr (.inr (.inr (fun _ => none)))))), some (.inl (.int, 18, .inl (fun _ => 0))), some (.inl (.long, 6, .inr (.inl (fun _ => 0)))), some (.inl (.int, 30, .inl (fun _ => 0))), some (.inl (.int, 30, .inl (fun _ => 0))), some (.inl (.int, 3, .inl (fun _ => 0))), some (.inl (.int, 6, .inl (fun _ => 0))), some (.inr (5, cxf_117_11)), some (.inl (.int, 8, .inl (fun _ => 0))), some (.inl (.int, 8, .inl (fun _ => 0))), some (.inl (.byte, 160, .inl (fun _ => 0))), none, none, none, none, none, none, none, none, none, none, none]
def cx_133 : List (Option hE) := [some (.inr (6, cxf_132_0)), some (.inl (.object RX4, 8, .inr (.inr (.inr (.inr (fun _ => none)))))), some (.inl (.object RX1, 30, .inr (.inr (.inr (.inr (fun _ => none)))))), some (.inl (.object RX2, 10, .inr (.inr (.inr (.inr (fun _ => none)))))), some (.inl (.object RX3, 3, .inr (.inr (.inr (.inr (fun _ => none)))))), some (.inl (.int, 18, .inl (fun _ => 0))), some (.inl (.long, 6, .inr (.inl (fun _ => 0)))), some (.inl (.int, 30, .inl (fun _ => 0))), some (.inl (.int, 30, .inl (fun _ => 0))), some (.inl (.int, 3, .inl (fun _ => 0))), some (.inl (.int, 6, .inl (fun _ => 0))), some (.inr (5, cxf_117_11)), some (.inl (.int, 8, .inl (fun _ => 0))), some (.inl (.int, 8, .inl (fun _ => 0))), some (.inl (.byte, 160, .inl (fun _ => 0))), some (.inr (0, dfX0)), none, none, none, none, none, none, none, none, none, none]
def cx_134 : List (Option hE) := [some (.inr (6, cxf_132_0)), some (.inl (.object RX4, 8, .inr (.inr (.inr (.inr (fun _ => none)))))), some (.inl (.object RX1, 30, .inr (.inr (.inr (.inr (fun _ => none)))))), some (.inl (.object RX2, 10, .inr (.inr (.inr (.inr (fun _ => none)))))), some (.inl (.object RX3, 3, .inr (.inr (.inr (.inr (fun _ => none)))))), some (.inl (.int, 18, .inl (fun _ => 0))), some (.inl (.long, 6, .inr (.inl (fun _ => 0)))), some (.inl (.int, 30, .inl (fun _ => 0))), some (.inl (.int, 30, .inl (fun _ => 0))), some (.inl (.int, 3, .inl (fun _ => 0))), some (.inl (.int, 6, .inl (fun _ => 0))), some (.inr (5, cxf_117_11)), some (.inl (.int, 8, .inl (fun _ => 0))), some (.inl (.int, 8, .inl (fun _ => 0))), some (.inl (.byte, 160, .inl (fun _ => 0))), some (.inr (0, dfX0)), some (.inl (.int, 3, .inl (fun _ => 0))), none, none, none, none, none, none, none, none, none]
def cxf_135_15 : List Value := [.ref 16, .null, .null, .null, .null, .null, .null]
def cx_135 : List (Option hE) := [some (.inr (6, cxf_132_0)), some (.inl (.object RX4, 8, .inr (.inr (.inr (.inr (fun _ => none)))))), some (.inl (.object RX1, 30, .inr (.inr (.inr (.inr (fun _ => none)))))), some (.inl (.object RX2, 10, .inr (.inr (.inr (.inr (fun _ => none)))))), some (.inl (.object RX3, 3, .inr (.inr (.inr (.inr (fun _ => none)))))), some (.inl (.int, 18, .inl (fun _ => 0))), some (.inl (.long, 6, .inr (.inl (fun _ => 0)))), some (.inl (.int, 30, .inl (fun _ => 0))), some (.inl (.int, 30, .inl (fun _ => 0))), some (.inl (.int, 3, .inl (fun _ => 0))), some (.inl (.int, 6, .inl (fun _ => 0))), some (.inr (5, cxf_117_11)), some (.inl (.int, 8, .inl (fun _ => 0))), some (.inl (.int, 8, .inl (fun _ => 0))), some (.inl (.byte, 160, .inl (fun _ => 0))), some (.inr (0, cxf_135_15)), some (.inl (.int, 3, .inl (fun _ => 0))), none, none, none, none, none, none, none, none, none]
def cx_136 : List (Option hE) := [some (.inr (6, cxf_132_0)), some (.inl (.object RX4, 8, .inr (.inr (.inr (.inr (fun _ => none)))))), some (.inl (.object RX1, 30, .inr (.inr (.inr (.inr (fun _ => none)))))), some (.inl (.object RX2, 10, .inr (.inr (.inr (.inr (fun _ => none)))))), some (.inl (.object RX3, 3, .inr (.inr (.inr (.inr (fun _ => none)))))), some (.inl (.int, 18, .inl (fun _ => 0))), some (.inl (.long, 6, .inr (.inl (fun _ => 0)))), some (.inl (.int, 30, .inl (fun _ => 0))), some (.inl (.int, 30, .inl (fun _ => 0))), some (.inl (.int, 3, .inl (fun _ => 0))), some (.inl (.int, 6, .inl (fun _ => 0))), some (.inr (5, cxf_117_11)), some (.inl (.int, 8, .inl (fun _ => 0))), some (.inl (.int, 8, .inl (fun _ => 0))), some (.inl (.byte, 160, .inl (fun _ => 0))), some (.inr (0, cxf_135_15)), some (.inl (.int, 3, .inl (fun _ => 0))), some (.inl (.int, 6, .inl (fun _ => 0))), none, none, none, none, none, none, none, none]
def cxf_137_15 : List Value := [.ref 16, .ref 17, .null, .null, .null, .null, .null]
def cx_137 : List (Option hE) := [some (.inr (6, cxf_132_0)), some (.inl (.object RX4, 8, .inr (.inr (.inr (.inr (fun _ => none)))))), some (.inl (.object RX1, 30, .inr (.inr (.inr (.inr (fun _ => none)))))), some (.inl (.object RX2, 10, .inr (.inr (.inr (.inr (fun _ => none)))))), some (.inl (.object RX3, 3, .inr (.inr (.inr (.inr (fun _ => none)))))), some (.inl (.int, 18, .inl (fun _ => 0))), some (.inl (.long, 6, .inr (.inl (fun _ => 0)))), some (.inl (.int, 30, .inl (fun _ => 0))), some (.inl (.int, 30, .inl (fun _ => 0))), some (.inl (.int, 3, .inl (fun _ => 0))), some (.inl (.int, 6, .inl (fun _ => 0))), some (.inr (5, cxf_117_11)), some (.inl (.int, 8, .inl (fun _ => 0))), some (.inl (.int, 8, .inl (fun _ => 0))), some (.inl (.byte, 160, .inl (fun _ => 0))), some (.inr (0, cxf_137_15)), some (.inl (.int, 3, .inl (fun _ => 0))), some (.inl (.int, 6, .inl (fun _ => 0))), none, none, none, none, none, none, none, none]
def cx_138 : List (Option hE) := [some (.inr (6, cxf_132_0)), some (.inl (.object RX4, 8, .inr (.inr (.inr (.inr (fun _ => none)))))), some (.inl (.object RX1, 30, .inr (.inr (.inr (.inr (fun _ => none)))))), some (.inl (.object RX2, 10, .inr (.inr (.inr (.inr (fun _ => none)))))), some (.inl (.object RX3, 3, .inr (.inr (.inr (.inr (fun _ => none)))))), some (.inl (.int, 18, .inl (fun _ => 0))), some (.inl (.long, 6, .inr (.inl (fun _ => 0)))), some (.inl (.int, 30, .inl (fun _ => 0))), some (.inl (.int, 30, .inl (fun _ => 0))), some (.inl (.int, 3, .inl (fun _ => 0))), some (.inl (.int, 6, .inl (fun _ => 0))), some (.inr (5, cxf_117_11)), some (.inl (.int, 8, .inl (fun _ => 0))), some (.inl (.int, 8, .inl (fun _ => 0))), some (.inl (.byte, 160, .inl (fun _ => 0))), some (.inr (0, cxf_137_15)), some (.inl (.int, 3, .inl (fun _ => 0))), some (.inl (.int, 6, .inl (fun _ => 0))), some (.inl (.int, 18, .inl (fun _ => 0))), none, none, none, none, none, none, none]
def cxf_139_15 : List Value := [.ref 16, .ref 17, .ref 18, .null, .null, .null, .null]
def cx_139 : List (Option hE) := [some (.inr (6, cxf_132_0)), some (.inl (.object RX4, 8, .inr (.inr (.inr (.inr (fun _ => none)))))), some (.inl (.object RX1, 30, .inr (.inr (.inr (.inr (fun _ => none)))))), some (.inl (.object RX2, 10, .inr (.inr (.inr (.inr (fun _ => none)))))), some (.inl (.object RX3, 3, .inr (.inr (.inr (.inr (fun _ => none)))))), some (.inl (.int, 18, .inl (fun _ => 0))), some (.inl (.long, 6, .inr (.inl (fun _ => 0)))), some (.inl (.int, 30, .inl (fun _ => 0))), some (.inl (.int, 30, .inl (fun _ => 0))), some (.inl (.int, 3, .inl (fun _ => 0))), some (.inl (.int, 6, .inl (fun _ => 0))), some (.inr (5, cxf_117_11)), some (.inl (.int, 8, .inl (fun _ => 0))), some (.inl (.int, 8, .inl (fun _ => 0))), some (.inl (.byte, 160, .inl (fun _ => 0))), some (.inr (0, cxf_139_15)), some (.inl (.int, 3, .inl (fun _ => 0))), some (.inl (.int, 6, .inl (fun _ => 0))), some (.inl (.int, 18, .inl (fun _ => 0))), none, none, none, none, none, none, none]
def cx_140 : List (Option hE) := [some (.inr (6, cxf_132_0)), some (.inl (.object RX4, 8, .inr (.inr (.inr (.inr (fun _ => none)))))), some (.inl (.object RX1, 30, .inr (.inr (.inr (.inr (fun _ => none)))))), some (.inl (.object RX2, 10, .inr (.inr (.inr (.inr (fun _ => none)))))), some (.inl (.object RX3, 3, .inr (.inr (.inr (.inr (fun _ => none)))))), some (.inl (.int, 18, .inl (fun _ => 0))), some (.inl (.long, 6, .inr (.inl (fun _ => 0)))), some (.inl (.int, 30, .inl (fun _ => 0))), some (.inl (.int, 30, .inl (fun _ => 0))), some (.inl (.int, 3, .inl (fun _ => 0))), some (.inl (.int, 6, .inl (fun _ => 0))), some (.inr (5, cxf_117_11)), some (.inl (.int, 8, .inl (fun _ => 0))), some (.inl (.int, 8, .inl (fun _ => 0))), some (.inl (.byte, 160, .inl (fun _ => 0))), some (.inr (0, cxf_139_15)), some (.inl (.int, 3, .inl (fun _ => 0))), some (.inl (.int, 6, .inl (fun _ => 0))), some (.inl (.int, 18, .inl (fun _ => 0))), some (.inl (.int, 3, .inl (fun _ => 0))), none, none, none, none, none, none]
def cxf_141_15 : List Value := [.ref 16, .ref 17, .ref 18, .ref 19, .null, .null, .null]
def cx_141 : List (Option hE) := [some (.inr (6, cxf_132_0)), some (.inl (.object RX4, 8, .inr (.inr (.inr (.inr (fun _ => none)))))), some (.inl (.object RX1, 30, .inr (.inr (.inr (.inr (fun _ => none)))))), some (.inl (.object RX2, 10, .inr (.inr (.inr (.inr (fun _ => none)))))), some (.inl (.object RX3, 3, .inr (.inr (.inr (.inr (fun _ => none)))))), some (.inl (.int, 18, .inl (fun _ => 0))), some (.inl (.long, 6, .inr (.inl (fun _ => 0)))), some (.inl (.int, 30, .inl (fun _ => 0))), some (.inl (.int, 30, .inl (fun _ => 0))), some (.inl (.int, 3, .inl (fun _ => 0))), some (.inl (.int, 6, .inl (fun _ => 0))), some (.inr (5, cxf_117_11)), some (.inl (.int, 8, .inl (fun _ => 0))), some (.inl (.int, 8, .inl (fun _ => 0))), some (.inl (.byte, 160, .inl (fun _ => 0))), some (.inr (0, cxf_141_15)), some (.inl (.int, 3, .inl (fun _ => 0))), some (.inl (.int, 6, .inl (fun _ => 0))), some (.inl (.int, 18, .inl (fun _ => 0))), some (.inl (.int, 3, .inl (fun _ => 0))), none, none, none, none, none, none]
def cx_142 : List (Option hE) := [some (.inr (6, cxf_132_0)), some (.inl (.object RX4, 8, .inr (.inr (.inr (.inr (fun _ => none)))))), some (.inl (.object RX1, 30, .inr (.inr (.inr (.inr (fun _ => none)))))), some (.inl (.object RX2, 10, .inr (.inr (.inr (.inr (fun _ => none)))))), some (.inl (.object RX3, 3, .inr (.inr (.inr (.inr (fun _ => none)))))), some (.inl (.int, 18, .inl (fun _ => 0))), some (.inl (.long, 6, .inr (.inl (fun _ => 0)))), some (.inl (.int, 30, .inl (fun _ => 0))), some (.inl (.int, 30, .inl (fun _ => 0))), some (.inl (.int, 3, .inl (fun _ => 0))), some (.inl (.int, 6, .inl (fun _ => 0))), some (.inr (5, cxf_117_11)), some (.inl (.int, 8, .inl (fun _ => 0))), some (.inl (.int, 8, .inl (fun _ => 0))), some (.inl (.byte, 160, .inl (fun _ => 0))), some (.inr (0, cxf_141_15)), some (.inl (.int, 3, .inl (fun _ => 0))), some (.inl (.int, 6, .inl (fun _ => 0))), some (.inl (.int, 18, .inl (fun _ => 0))), some (.inl (.int, 3, .inl (fun _ => 0))), some (.inl (.int, 6, .inl (fun _ => 0))), none, none, none, none, none]
def cxf_143_15 : List Value := [.ref 16, .ref 17, .ref 18, .ref 19, .ref 20, .null, .null]
def cx_143 : List (Option hE) := [some (.inr (6, cxf_132_0)), some (.inl (.object RX4, 8, .inr (.inr (.inr (.inr (fun _ => none)))))), some (.inl (.object RX1, 30, .inr (.inr (.inr (.inr (fun _ => none)))))), some (.inl (.object RX2, 10, .inr (.inr (.inr (.inr (fun _ => none)))))), some (.inl (.object RX3, 3, .inr (.inr (.inr (.inr (fun _ => none)))))), some (.inl (.int, 18, .inl (fun _ => 0))), some (.inl (.long, 6, .inr (.inl (fun _ => 0)))), some (.inl (.int, 30, .inl (fun _ => 0))), some (.inl (.int, 30, .inl (fun _ => 0))), some (.inl (.int, 3, .inl (fun _ => 0))), some (.inl (.int, 6, .inl (fun _ => 0))), some (.inr (5, cxf_117_11)), some (.inl (.int, 8, .inl (fun _ => 0))), some (.inl (.int, 8, .inl (fun _ => 0))), some (.inl (.byte, 160, .inl (fun _ => 0))), some (.inr (0, cxf_143_15)), some (.inl (.int, 3, .inl (fun _ => 0))), some (.inl (.int, 6, .inl (fun _ => 0))), some (.inl (.int, 18, .inl (fun _ => 0))), some (.inl (.int, 3, .inl (fun _ => 0))), some (.inl (.int, 6, .inl (fun _ => 0))), none, none, none, none, none]
def cx_144 : List (Option hE) := [some (.inr (6, cxf_132_0)), some (.inl (.object RX4, 8, .inr (.inr (.inr (.inr (fun _ => none)))))), some (.inl (.object RX1, 30, .inr (.inr (.inr (.inr (fun _ => none)))))), some (.inl (.object RX2, 10, .inr (.inr (.inr (.inr (fun _ => none)))))), some (.inl (.object RX3, 3, .inr (.inr (.inr (.inr (fun _ => none)))))), some (.inl (.int, 18, .inl (fun _ => 0))), some (.inl (.long, 6, .inr (.inl (fun _ => 0)))), some (.inl (.int, 30, .inl (fun _ => 0))), some (.inl (.int, 30, .inl (fun _ => 0))), some (.inl (.int, 3, .inl (fun _ => 0))), some (.inl (.int, 6, .inl (fun _ => 0))), some (.inr (5, cxf_117_11)), some (.inl (.int, 8, .inl (fun _ => 0))), some (.inl (.int, 8, .inl (fun _ => 0))), some (.inl (.byte, 160, .inl (fun _ => 0))), some (.inr (0, cxf_143_15)), some (.inl (.int, 3, .inl (fun _ => 0))), some (.inl (.int, 6, .inl (fun _ => 0))), some (.inl (.int, 18, .inl (fun _ => 0))), some (.inl (.int, 3, .inl (fun _ => 0))), some (.inl (.int, 6, .inl (fun _ => 0))), some (.inl (.int, 3, .inl (fun _ => 0))), none, none, none, none]
def cxf_145_15 : List Value := [.ref 16, .ref 17, .ref 18, .ref 19, .ref 20, .ref 21, .null]
def cx_145 : List (Option hE) := [some (.inr (6, cxf_132_0)), some (.inl (.object RX4, 8, .inr (.inr (.inr (.inr (fun _ => none)))))), some (.inl (.object RX1, 30, .inr (.inr (.inr (.inr (fun _ => none)))))), some (.inl (.object RX2, 10, .inr (.inr (.inr (.inr (fun _ => none)))))), some (.inl (.object RX3, 3, .inr (.inr (.inr (.inr (fun _ => none)))))), some (.inl (.int, 18, .inl (fun _ => 0))), some (.inl (.long, 6, .inr (.inl (fun _ => 0)))), some (.inl (.int, 30, .inl (fun _ => 0))), some (.inl (.int, 30, .inl (fun _ => 0))), some (.inl (.int, 3, .inl (fun _ => 0))), some (.inl (.int, 6, .inl (fun _ => 0))), some (.inr (5, cxf_117_11)), some (.inl (.int, 8, .inl (fun _ => 0))), some (.inl (.int, 8, .inl (fun _ => 0))), some (.inl (.byte, 160, .inl (fun _ => 0))), some (.inr (0, cxf_145_15)), some (.inl (.int, 3, .inl (fun _ => 0))), some (.inl (.int, 6, .inl (fun _ => 0))), some (.inl (.int, 18, .inl (fun _ => 0))), some (.inl (.int, 3, .inl (fun _ => 0))), some (.inl (.int, 6, .inl (fun _ => 0))), some (.inl (.int, 3, .inl (fun _ => 0))), none, none, none, none]
def cx_146 : List (Option hE) := [some (.inr (6, cxf_132_0)), some (.inl (.object RX4, 8, .inr (.inr (.inr (.inr (fun _ => none)))))), some (.inl (.object RX1, 30, .inr (.inr (.inr (.inr (fun _ => none)))))), some (.inl (.object RX2, 10, .inr (.inr (.inr (.inr (fun _ => none)))))), some (.inl (.object RX3, 3, .inr (.inr (.inr (.inr (fun _ => none)))))), some (.inl (.int, 18, .inl (fun _ => 0))), some (.inl (.long, 6, .inr (.inl (fun _ => 0)))), some (.inl (.int, 30, .inl (fun _ => 0))), some (.inl (.int, 30, .inl (fun _ => 0))), some (.inl (.int, 3, .inl (fun _ => 0))), some (.inl (.int, 6, .inl (fun _ => 0))), some (.inr (5, cxf_117_11)), some (.inl (.int, 8, .inl (fun _ => 0))), some (.inl (.int, 8, .inl (fun _ => 0))), some (.inl (.byte, 160, .inl (fun _ => 0))), some (.inr (0, cxf_145_15)), some (.inl (.int, 3, .inl (fun _ => 0))), some (.inl (.int, 6, .inl (fun _ => 0))), some (.inl (.int, 18, .inl (fun _ => 0))), some (.inl (.int, 3, .inl (fun _ => 0))), some (.inl (.int, 6, .inl (fun _ => 0))), some (.inl (.int, 3, .inl (fun _ => 0))), some (.inl (.int, 6, .inl (fun _ => 0))), none, none, none]
def cxf_147_15 : List Value := [.ref 16, .ref 17, .ref 18, .ref 19, .ref 20, .ref 21, .ref 22]
def cx_147 : List (Option hE) := [some (.inr (6, cxf_132_0)), some (.inl (.object RX4, 8, .inr (.inr (.inr (.inr (fun _ => none)))))), some (.inl (.object RX1, 30, .inr (.inr (.inr (.inr (fun _ => none)))))), some (.inl (.object RX2, 10, .inr (.inr (.inr (.inr (fun _ => none)))))), some (.inl (.object RX3, 3, .inr (.inr (.inr (.inr (fun _ => none)))))), some (.inl (.int, 18, .inl (fun _ => 0))), some (.inl (.long, 6, .inr (.inl (fun _ => 0)))), some (.inl (.int, 30, .inl (fun _ => 0))), some (.inl (.int, 30, .inl (fun _ => 0))), some (.inl (.int, 3, .inl (fun _ => 0))), some (.inl (.int, 6, .inl (fun _ => 0))), some (.inr (5, cxf_117_11)), some (.inl (.int, 8, .inl (fun _ => 0))), some (.inl (.int, 8, .inl (fun _ => 0))), some (.inl (.byte, 160, .inl (fun _ => 0))), some (.inr (0, cxf_147_15)), some (.inl (.int, 3, .inl (fun _ => 0))), some (.inl (.int, 6, .inl (fun _ => 0))), some (.inl (.int, 18, .inl (fun _ => 0))), some (.inl (.int, 3, .inl (fun _ => 0))), some (.inl (.int, 6, .inl (fun _ => 0))), some (.inl (.int, 3, .inl (fun _ => 0))), some (.inl (.int, 6, .inl (fun _ => 0))), none, none, none]
def cxf_148_0 : List Value := [.ref 1, .int 0, .ref 2, .int 0, .ref 3, .int 0, .ref 11, .ref 4, .ref 5, .ref 6, .ref 7, .int 0, .ref 8, .ref 9, .ref 10, .ref 15, .int 0]
def cx_148 : List (Option hE) := [some (.inr (6, cxf_148_0)), some (.inl (.object RX4, 8, .inr (.inr (.inr (.inr (fun _ => none)))))), some (.inl (.object RX1, 30, .inr (.inr (.inr (.inr (fun _ => none)))))), some (.inl (.object RX2, 10, .inr (.inr (.inr (.inr (fun _ => none)))))), some (.inl (.object RX3, 3, .inr (.inr (.inr (.inr (fun _ => none)))))), some (.inl (.int, 18, .inl (fun _ => 0))), some (.inl (.long, 6, .inr (.inl (fun _ => 0)))), some (.inl (.int, 30, .inl (fun _ => 0))), some (.inl (.int, 30, .inl (fun _ => 0))), some (.inl (.int, 3, .inl (fun _ => 0))), some (.inl (.int, 6, .inl (fun _ => 0))), some (.inr (5, cxf_117_11)), some (.inl (.int, 8, .inl (fun _ => 0))), some (.inl (.int, 8, .inl (fun _ => 0))), some (.inl (.byte, 160, .inl (fun _ => 0))), some (.inr (0, cxf_147_15)), some (.inl (.int, 3, .inl (fun _ => 0))), some (.inl (.int, 6, .inl (fun _ => 0))), some (.inl (.int, 18, .inl (fun _ => 0))), some (.inl (.int, 3, .inl (fun _ => 0))), some (.inl (.int, 6, .inl (fun _ => 0))), some (.inl (.int, 3, .inl (fun _ => 0))), some (.inl (.int, 6, .inl (fun _ => 0))), none, none, none]
def cx_149 : List (Option hE) := [some (.inr (6, cxf_148_0)), some (.inl (.object RX4, 8, .inr (.inr (.inr (.inr (fun _ => none)))))), some (.inl (.object RX1, 30, .inr (.inr (.inr (.inr (fun _ => none)))))), some (.inl (.object RX2, 10, .inr (.inr (.inr (.inr (fun _ => none)))))), some (.inl (.object RX3, 3, .inr (.inr (.inr (.inr (fun _ => none)))))), some (.inl (.int, 18, .inl (fillf 18 5 (fun _ => 0)))), some (.inl (.long, 6, .inr (.inl (fun _ => 0)))), some (.inl (.int, 30, .inl (fun _ => 0))), some (.inl (.int, 30, .inl (fun _ => 0))), some (.inl (.int, 3, .inl (fun _ => 0))), some (.inl (.int, 6, .inl (fun _ => 0))), some (.inr (5, cxf_117_11)), some (.inl (.int, 8, .inl (fun _ => 0))), some (.inl (.int, 8, .inl (fun _ => 0))), some (.inl (.byte, 160, .inl (fun _ => 0))), some (.inr (0, cxf_147_15)), some (.inl (.int, 3, .inl (fun _ => 0))), some (.inl (.int, 6, .inl (fun _ => 0))), some (.inl (.int, 18, .inl (fun _ => 0))), some (.inl (.int, 3, .inl (fun _ => 0))), some (.inl (.int, 6, .inl (fun _ => 0))), some (.inl (.int, 3, .inl (fun _ => 0))), some (.inl (.int, 6, .inl (fun _ => 0))), none, none, none]
def cx_150 : List (Option hE) := [some (.inr (6, cxf_148_0)), some (.inl (.object RX4, 8, .inr (.inr (.inr (.inr (fun _ => none)))))), some (.inl (.object RX1, 30, .inr (.inr (.inr (.inr (fun _ => none)))))), some (.inl (.object RX2, 10, .inr (.inr (.inr (.inr (fun _ => none)))))), some (.inl (.object RX3, 3, .inr (.inr (.inr (.inr (fun _ => none)))))), some (.inl (.int, 18, .inl (fillf 18 5 (fun _ => 0)))), some (.inl (.long, 6, .inr (.inl (fun _ => 0)))), some (.inl (.int, 30, .inl (fun _ => 0))), some (.inl (.int, 30, .inl (fun _ => 0))), some (.inl (.int, 3, .inl (fun _ => 0))), some (.inl (.int, 6, .inl (fun _ => 0))), some (.inr (5, cxf_117_11)), some (.inl (.int, 8, .inl (fun _ => 0))), some (.inl (.int, 8, .inl (fun _ => 0))), some (.inl (.byte, 160, .inl (fun _ => 0))), some (.inr (0, cxf_147_15)), some (.inl (.int, 3, .inl (fun _ => 0))), some (.inl (.int, 6, .inl (fun _ => 0))), some (.inl (.int, 18, .inl (fun _ => 0))), some (.inl (.int, 3, .inl (fun _ => 0))), some (.inl (.int, 6, .inl (fun _ => 0))), some (.inl (.int, 3, .inl (fun _ => 0))), some (.inl (.int, 6, .inl (fun _ => 0))), some (.inr (3, dfX3)), none, none]
def cxf_151_23 : List Value := [.long 0, .long 0, .int 0, .long 0, .long 0, .long 0, .int 100000, .int 0, .int 0]
def cx_151 : List (Option hE) := [some (.inr (6, cxf_148_0)), some (.inl (.object RX4, 8, .inr (.inr (.inr (.inr (fun _ => none)))))), some (.inl (.object RX1, 30, .inr (.inr (.inr (.inr (fun _ => none)))))), some (.inl (.object RX2, 10, .inr (.inr (.inr (.inr (fun _ => none)))))), some (.inl (.object RX3, 3, .inr (.inr (.inr (.inr (fun _ => none)))))), some (.inl (.int, 18, .inl (fillf 18 5 (fun _ => 0)))), some (.inl (.long, 6, .inr (.inl (fun _ => 0)))), some (.inl (.int, 30, .inl (fun _ => 0))), some (.inl (.int, 30, .inl (fun _ => 0))), some (.inl (.int, 3, .inl (fun _ => 0))), some (.inl (.int, 6, .inl (fun _ => 0))), some (.inr (5, cxf_117_11)), some (.inl (.int, 8, .inl (fun _ => 0))), some (.inl (.int, 8, .inl (fun _ => 0))), some (.inl (.byte, 160, .inl (fun _ => 0))), some (.inr (0, cxf_147_15)), some (.inl (.int, 3, .inl (fun _ => 0))), some (.inl (.int, 6, .inl (fun _ => 0))), some (.inl (.int, 18, .inl (fun _ => 0))), some (.inl (.int, 3, .inl (fun _ => 0))), some (.inl (.int, 6, .inl (fun _ => 0))), some (.inl (.int, 3, .inl (fun _ => 0))), some (.inl (.int, 6, .inl (fun _ => 0))), some (.inr (3, cxf_151_23)), none, none]
def cx_152 : List (Option hE) := [some (.inr (6, cxf_148_0)), some (.inl (.object RX4, 8, .inr (.inr (.inr (.inr (fun _ => none)))))), some (.inl (.object RX1, 30, .inr (.inr (.inr (.inr (fun _ => none)))))), some (.inl (.object RX2, 10, .inr (.inr (.inr (.inr (fun _ => none)))))), some (.inl (.object RX3, 3, .inr (.inr (.inr (.inr (va_up (fun _ => none) (Int32.toNatClampNeg 0) (some 23))))))), some (.inl (.int, 18, .inl (fillf 18 5 (fun _ => 0)))), some (.inl (.long, 6, .inr (.inl (fun _ => 0)))), some (.inl (.int, 30, .inl (fun _ => 0))), some (.inl (.int, 30, .inl (fun _ => 0))), some (.inl (.int, 3, .inl (fun _ => 0))), some (.inl (.int, 6, .inl (fun _ => 0))), some (.inr (5, cxf_117_11)), some (.inl (.int, 8, .inl (fun _ => 0))), some (.inl (.int, 8, .inl (fun _ => 0))), some (.inl (.byte, 160, .inl (fun _ => 0))), some (.inr (0, cxf_147_15)), some (.inl (.int, 3, .inl (fun _ => 0))), some (.inl (.int, 6, .inl (fun _ => 0))), some (.inl (.int, 18, .inl (fun _ => 0))), some (.inl (.int, 3, .inl (fun _ => 0))), some (.inl (.int, 6, .inl (fun _ => 0))), some (.inl (.int, 3, .inl (fun _ => 0))), some (.inl (.int, 6, .inl (fun _ => 0))), some (.inr (3, cxf_151_23)), none, none]
def cx_153 : List (Option hE) := [some (.inr (6, cxf_148_0)), some (.inl (.object RX4, 8, .inr (.inr (.inr (.inr (fun _ => none)))))), some (.inl (.object RX1, 30, .inr (.inr (.inr (.inr (fun _ => none)))))), some (.inl (.object RX2, 10, .inr (.inr (.inr (.inr (fun _ => none)))))), some (.inl (.object RX3, 3, .inr (.inr (.inr (.inr (va_up (fun _ => none) (Int32.toNatClampNeg 0) (some 23))))))), some (.inl (.int, 18, .inl (fillf 18 5 (fun _ => 0)))), some (.inl (.long, 6, .inr (.inl (fun _ => 0)))), some (.inl (.int, 30, .inl (fun _ => 0))), some (.inl (.int, 30, .inl (fun _ => 0))), some (.inl (.int, 3, .inl (fun _ => 0))), some (.inl (.int, 6, .inl (fun _ => 0))), some (.inr (5, cxf_117_11)), some (.inl (.int, 8, .inl (fun _ => 0))), some (.inl (.int, 8, .inl (fun _ => 0))), some (.inl (.byte, 160, .inl (fun _ => 0))), some (.inr (0, cxf_147_15)), some (.inl (.int, 3, .inl (fun _ => 0))), some (.inl (.int, 6, .inl (fun _ => 0))), some (.inl (.int, 18, .inl (fun _ => 0))), some (.inl (.int, 3, .inl (fun _ => 0))), some (.inl (.int, 6, .inl (fun _ => 0))), some (.inl (.int, 3, .inl (fun _ => 0))), some (.inl (.int, 6, .inl (fun _ => 0))), some (.inr (3, cxf_151_23)), some (.inr (3, dfX3)), none]
def cxf_154_24 : List Value := [.long 0, .long 0, .int 0, .long 0, .long 0, .long 0, .int 100000, .int 0, .int 0]
def cx_154 : List (Option hE) := [some (.inr (6, cxf_148_0)), some (.inl (.object RX4, 8, .inr (.inr (.inr (.inr (fun _ => none)))))), some (.inl (.object RX1, 30, .inr (.inr (.inr (.inr (fun _ => none)))))), some (.inl (.object RX2, 10, .inr (.inr (.inr (.inr (fun _ => none)))))), some (.inl (.object RX3, 3, .inr (.inr (.inr (.inr (va_up (fun _ => none) (Int32.toNatClampNeg 0) (some 23))))))), some (.inl (.int, 18, .inl (fillf 18 5 (fun _ => 0)))), some (.inl (.long, 6, .inr (.inl (fun _ => 0)))), some (.inl (.int, 30, .inl (fun _ => 0))), some (.inl (.int, 30, .inl (fun _ => 0))), some (.inl (.int, 3, .inl (fun _ => 0))), some (.inl (.int, 6, .inl (fun _ => 0))), some (.inr (5, cxf_117_11)), some (.inl (.int, 8, .inl (fun _ => 0))), some (.inl (.int, 8, .inl (fun _ => 0))), some (.inl (.byte, 160, .inl (fun _ => 0))), some (.inr (0, cxf_147_15)), some (.inl (.int, 3, .inl (fun _ => 0))), some (.inl (.int, 6, .inl (fun _ => 0))), some (.inl (.int, 18, .inl (fun _ => 0))), some (.inl (.int, 3, .inl (fun _ => 0))), some (.inl (.int, 6, .inl (fun _ => 0))), some (.inl (.int, 3, .inl (fun _ => 0))), some (.inl (.int, 6, .inl (fun _ => 0))), some (.inr (3, cxf_151_23)), some (.inr (3, cxf_154_24)), none]
def cx_155 : List (Option hE) := [some (.inr (6, cxf_148_0)), some (.inl (.object RX4, 8, .inr (.inr (.inr (.inr (fun _ => none)))))), some (.inl (.object RX1, 30, .inr (.inr (.inr (.inr (fun _ => none)))))), some (.inl (.object RX2, 10, .inr (.inr (.inr (.inr (fun _ => none)))))), some (.inl (.object RX3, 3, .inr (.inr (.inr (.inr (va_up (va_up (fun _ => none) (Int32.toNatClampNeg 0) (some 23)) (Int32.toNatClampNeg (0 + 1)) (some 24))))))), some (.inl (.int, 18, .inl (fillf 18 5 (fun _ => 0)))), some (.inl (.long, 6, .inr (.inl (fun _ => 0)))), some (.inl (.int, 30, .inl (fun _ => 0))), some (.inl (.int, 30, .inl (fun _ => 0))), some (.inl (.int, 3, .inl (fun _ => 0))), some (.inl (.int, 6, .inl (fun _ => 0))), some (.inr (5, cxf_117_11)), some (.inl (.int, 8, .inl (fun _ => 0))), some (.inl (.int, 8, .inl (fun _ => 0))), some (.inl (.byte, 160, .inl (fun _ => 0))), some (.inr (0, cxf_147_15)), some (.inl (.int, 3, .inl (fun _ => 0))), some (.inl (.int, 6, .inl (fun _ => 0))), some (.inl (.int, 18, .inl (fun _ => 0))), some (.inl (.int, 3, .inl (fun _ => 0))), some (.inl (.int, 6, .inl (fun _ => 0))), some (.inl (.int, 3, .inl (fun _ => 0))), some (.inl (.int, 6, .inl (fun _ => 0))), some (.inr (3, cxf_151_23)), some (.inr (3, cxf_154_24)), none]
def cx_156 : List (Option hE) := [some (.inr (6, cxf_148_0)), some (.inl (.object RX4, 8, .inr (.inr (.inr (.inr (fun _ => none)))))), some (.inl (.object RX1, 30, .inr (.inr (.inr (.inr (fun _ => none)))))), some (.inl (.object RX2, 10, .inr (.inr (.inr (.inr (fun _ => none)))))), some (.inl (.object RX3, 3, .inr (.inr (.inr (.inr (va_up (va_up (fun _ => none) (Int32.toNatClampNeg 0) (some 23)) (Int32.toNatClampNeg (0 + 1)) (some 24))))))), some (.inl (.int, 18, .inl (fillf 18 5 (fun _ => 0)))), some (.inl (.long, 6, .inr (.inl (fun _ => 0)))), some (.inl (.int, 30, .inl (fun _ => 0))), some (.inl (.int, 30, .inl (fun _ => 0))), some (.inl (.int, 3, .inl (fun _ => 0))), some (.inl (.int, 6, .inl (fun _ => 0))), some (.inr (5, cxf_117_11)), some (.inl (.int, 8, .inl (fun _ => 0))), some (.inl (.int, 8, .inl (fun _ => 0))), some (.inl (.byte, 160, .inl (fun _ => 0))), some (.inr (0, cxf_147_15)), some (.inl (.int, 3, .inl (fun _ => 0))), some (.inl (.int, 6, .inl (fun _ => 0))), some (.inl (.int, 18, .inl (fun _ => 0))), some (.inl (.int, 3, .inl (fun _ => 0))), some (.inl (.int, 6, .inl (fun _ => 0))), some (.inl (.int, 3, .inl (fun _ => 0))), some (.inl (.int, 6, .inl (fun _ => 0))), some (.inr (3, cxf_151_23)), some (.inr (3, cxf_154_24)), some (.inr (3, dfX3))]
def cxf_157_25 : List Value := [.long 0, .long 0, .int 0, .long 0, .long 0, .long 0, .int 100000, .int 0, .int 0]
def cx_157 : List (Option hE) := [some (.inr (6, cxf_148_0)), some (.inl (.object RX4, 8, .inr (.inr (.inr (.inr (fun _ => none)))))), some (.inl (.object RX1, 30, .inr (.inr (.inr (.inr (fun _ => none)))))), some (.inl (.object RX2, 10, .inr (.inr (.inr (.inr (fun _ => none)))))), some (.inl (.object RX3, 3, .inr (.inr (.inr (.inr (va_up (va_up (fun _ => none) (Int32.toNatClampNeg 0) (some 23)) (Int32.toNatClampNeg (0 + 1)) (some 24))))))), some (.inl (.int, 18, .inl (fillf 18 5 (fun _ => 0)))), some (.inl (.long, 6, .inr (.inl (fun _ => 0)))), some (.inl (.int, 30, .inl (fun _ => 0))), some (.inl (.int, 30, .inl (fun _ => 0))), some (.inl (.int, 3, .inl (fun _ => 0))), some (.inl (.int, 6, .inl (fun _ => 0))), some (.inr (5, cxf_117_11)), some (.inl (.int, 8, .inl (fun _ => 0))), some (.inl (.int, 8, .inl (fun _ => 0))), some (.inl (.byte, 160, .inl (fun _ => 0))), some (.inr (0, cxf_147_15)), some (.inl (.int, 3, .inl (fun _ => 0))), some (.inl (.int, 6, .inl (fun _ => 0))), some (.inl (.int, 18, .inl (fun _ => 0))), some (.inl (.int, 3, .inl (fun _ => 0))), some (.inl (.int, 6, .inl (fun _ => 0))), some (.inl (.int, 3, .inl (fun _ => 0))), some (.inl (.int, 6, .inl (fun _ => 0))), some (.inr (3, cxf_151_23)), some (.inr (3, cxf_154_24)), some (.inr (3, cxf_157_25))]
def cx_158 : List (Option hE) := [some (.inr (6, cxf_148_0)), some (.inl (.object RX4, 8, .inr (.inr (.inr (.inr (fun _ => none)))))), some (.inl (.object RX1, 30, .inr (.inr (.inr (.inr (fun _ => none)))))), some (.inl (.object RX2, 10, .inr (.inr (.inr (.inr (fun _ => none)))))), some (.inl (.object RX3, 3, .inr (.inr (.inr (.inr (va_up (va_up (va_up (fun _ => none) (Int32.toNatClampNeg 0) (some 23)) (Int32.toNatClampNeg (0 + 1)) (some 24)) (Int32.toNatClampNeg ((0 + 1) + 1)) (some 25))))))), some (.inl (.int, 18, .inl (fillf 18 5 (fun _ => 0)))), some (.inl (.long, 6, .inr (.inl (fun _ => 0)))), some (.inl (.int, 30, .inl (fun _ => 0))), some (.inl (.int, 30, .inl (fun _ => 0))), some (.inl (.int, 3, .inl (fun _ => 0))), some (.inl (.int, 6, .inl (fun _ => 0))), some (.inr (5, cxf_117_11)), some (.inl (.int, 8, .inl (fun _ => 0))), some (.inl (.int, 8, .inl (fun _ => 0))), some (.inl (.byte, 160, .inl (fun _ => 0))), some (.inr (0, cxf_147_15)), some (.inl (.int, 3, .inl (fun _ => 0))), some (.inl (.int, 6, .inl (fun _ => 0))), some (.inl (.int, 18, .inl (fun _ => 0))), some (.inl (.int, 3, .inl (fun _ => 0))), some (.inl (.int, 6, .inl (fun _ => 0))), some (.inl (.int, 3, .inl (fun _ => 0))), some (.inl (.int, 6, .inl (fun _ => 0))), some (.inr (3, cxf_151_23)), some (.inr (3, cxf_154_24)), some (.inr (3, cxf_157_25))]
def rX5_init_k11 : Room := { frames := 1, cells := 3, slots := 176, locals := 20 }
set_option maxHeartbeats 4000000 in
set_option maxRecDepth 100000 in
theorem s_X5_init_k11 (g : hH) : SpD mX5_init rX5_init_k11 [.ref 11] (gp 0 26 g cx_111) none (gp 0 26 g cx_117) := by
  refine sp_of miX5_init (Nat.le_of_ble_eq_true rfl) ?_
  show J _ _ _ 0 0 _ 0 [(0, .ref 11)] []
  refine j_aload_n (pc' := 1) rfl rfl rfl ?_
  refine j_objInit (pc' := 4) rfl rfl koX5 ko_i ko_c ⟨(Nat.le_of_ble_eq_true rfl), (Nat.le_of_ble_eq_true rfl)⟩ ?_
  refine j_aload_n (pc' := 5) rfl rfl rfl ?_
  refine j_bipush (v := 8) (pc' := 7) rfl rfl (by decide) ?_
  refine j_newa_int (pc' := 9) (key := 12) (N := 8) rfl rfl ka_int (by decide) (by decide) (by decide) (gp_k (j := 12) rfl (by decide) rfl) (by decide) (Nat.le_of_ble_eq_true rfl) (Nat.le_of_ble_eq_true rfl) ?_
  refine j_cs (c' := 1) (s' := 8) rfl rfl ?_
  refine j_heap (gp_to (j := 12) (L' := cx_112) rfl (by decide) rfl rfl) ?_
  refine j_putF (pc' := 12) rfl rfl flX5_9 rfl rfl (gp_k (j := 11) rfl (by decide) rfl) (by decide) (Nat.le_of_ble_eq_true rfl) rfl rfl ?_
  refine j_heap (gp_to (j := 11) (L' := cx_113) rfl (by decide) rfl rfl) ?_
  refine j_aload_n (pc' := 13) rfl rfl rfl ?_
  refine j_bipush (v := 8) (pc' := 15) rfl rfl (by decide) ?_
  refine j_newa_int (pc' := 17) (key := 13) (N := 8) rfl rfl ka_int (by decide) (by decide) (by decide) (gp_k (j := 13) rfl (by decide) rfl) (by decide) (Nat.le_of_ble_eq_true rfl) (Nat.le_of_ble_eq_true rfl) ?_
  refine j_cs (c' := 2) (s' := 16) rfl rfl ?_
  refine j_heap (gp_to (j := 13) (L' := cx_114) rfl (by decide) rfl rfl) ?_
  refine j_putF (pc' := 20) rfl rfl flX5_15 rfl rfl (gp_k (j := 11) rfl (by decide) rfl) (by decide) (Nat.le_of_ble_eq_true rfl) rfl rfl ?_
  refine j_heap (gp_to (j := 11) (L' := cx_115) rfl (by decide) rfl rfl) ?_
  refine j_aload_n (pc' := 21) rfl rfl rfl ?_
  refine j_sipush (v := 160) (pc' := 24) rfl rfl (by decide) ?_
  refine j_newa_byte (pc' := 26) (key := 14) (N := 160) rfl rfl ka_byte (by decide) (by decide) (by decide) (gp_k (j := 14) rfl (by decide) rfl) (by decide) (Nat.le_of_ble_eq_true rfl) (Nat.le_of_ble_eq_true rfl) ?_
  refine j_cs (c' := 3) (s' := 176) rfl rfl ?_
  refine j_heap (gp_to (j := 14) (L' := cx_116) rfl (by decide) rfl rfl) ?_
  refine j_putF (pc' := 29) rfl rfl flX5_18 rfl rfl (gp_k (j := 11) rfl (by decide) rfl) (by decide) (Nat.le_of_ble_eq_true rfl) rfl rfl ?_
  refine j_heap (gp_to (j := 11) (L' := cx_117) rfl (by decide) rfl rfl) ?_
  exact j_vret rfl rfl (Nat.le_of_ble_eq_true rfl) (Nat.le_of_ble_eq_true rfl) ⟨rfl, rfl⟩
def rX0_init_k15 : Room := { frames := 1, cells := 7, slots := 45, locals := 20 }
set_option maxHeartbeats 4000000 in
set_option maxRecDepth 100000 in
theorem s_X0_init_k15 (g : hH) : SpD mX0_init rX0_init_k15 [.ref 15] (gp 0 26 g cx_133) none (gp 0 26 g cx_147) := by
  refine sp_of miX0_init (Nat.le_of_ble_eq_true rfl) ?_
  show J _ _ _ 0 0 _ 0 [(0, .ref 15)] []
  refine j_aload_n (pc' := 1) rfl rfl rfl ?_
  refine j_objInit (pc' := 4) rfl rfl koX0 ko_i ko_c ⟨(Nat.le_of_ble_eq_true rfl), (Nat.le_of_ble_eq_true rfl)⟩ ?_
  refine j_aload_n (pc' := 5) rfl rfl rfl ?_
  refine j_iconst (v := 3) (pc' := 6) rfl rfl (by decide) ?_
  refine j_newa_int (pc' := 8) (key := 16) (N := 3) rfl rfl ka_int (by decide) (by decide) (by decide) (gp_k (j := 16) rfl (by decide) rfl) (by decide) (Nat.le_of_ble_eq_true rfl) (Nat.le_of_ble_eq_true rfl) ?_
  refine j_cs (c' := 1) (s' := 3) rfl rfl ?_
  refine j_heap (gp_to (j := 16) (L' := cx_134) rfl (by decide) rfl rfl) ?_
  refine j_putF (pc' := 11) rfl rfl flX0_9 rfl rfl (gp_k (j := 15) rfl (by decide) rfl) (by decide) (Nat.le_of_ble_eq_true rfl) rfl rfl ?_
  refine j_heap (gp_to (j := 15) (L' := cx_135) rfl (by decide) rfl rfl) ?_
  refine j_aload_n (pc' := 12) rfl rfl rfl ?_
  refine j_bipush (v := 6) (pc' := 14) rfl rfl (by decide) ?_
  refine j_newa_int (pc' := 16) (key := 17) (N := 6) rfl rfl ka_int (by decide) (by decide) (by decide) (gp_k (j := 17) rfl (by decide) rfl) (by decide) (Nat.le_of_ble_eq_true rfl) (Nat.le_of_ble_eq_true rfl) ?_
  refine j_cs (c' := 2) (s' := 9) rfl rfl ?_
  refine j_heap (gp_to (j := 17) (L' := cx_136) rfl (by decide) rfl rfl) ?_
  refine j_putF (pc' := 19) rfl rfl flX0_15 rfl rfl (gp_k (j := 15) rfl (by decide) rfl) (by decide) (Nat.le_of_ble_eq_true rfl) rfl rfl ?_
  refine j_heap (gp_to (j := 15) (L' := cx_137) rfl (by decide) rfl rfl) ?_
  refine j_aload_n (pc' := 20) rfl rfl rfl ?_
  refine j_bipush (v := 18) (pc' := 22) rfl rfl (by decide) ?_
  refine j_newa_int (pc' := 24) (key := 18) (N := 18) rfl rfl ka_int (by decide) (by decide) (by decide) (gp_k (j := 18) rfl (by decide) rfl) (by decide) (Nat.le_of_ble_eq_true rfl) (Nat.le_of_ble_eq_true rfl) ?_
  refine j_cs (c' := 3) (s' := 27) rfl rfl ?_
  refine j_heap (gp_to (j := 18) (L' := cx_138) rfl (by decide) rfl rfl) ?_
  refine j_putF (pc' := 27) rfl rfl flX0_18 rfl rfl (gp_k (j := 15) rfl (by decide) rfl) (by decide) (Nat.le_of_ble_eq_true rfl) rfl rfl ?_
  refine j_heap (gp_to (j := 15) (L' := cx_139) rfl (by decide) rfl rfl) ?_
  refine j_aload_n (pc' := 28) rfl rfl rfl ?_
  refine j_iconst (v := 3) (pc' := 29) rfl rfl (by decide) ?_
  refine j_newa_int (pc' := 31) (key := 19) (N := 3) rfl rfl ka_int (by decide) (by decide) (by decide) (gp_k (j := 19) rfl (by decide) rfl) (by decide) (Nat.le_of_ble_eq_true rfl) (Nat.le_of_ble_eq_true rfl) ?_
  refine j_cs (c' := 4) (s' := 30) rfl rfl ?_
  refine j_heap (gp_to (j := 19) (L' := cx_140) rfl (by decide) rfl rfl) ?_
  refine j_putF (pc' := 34) rfl rfl flX0_21 rfl rfl (gp_k (j := 15) rfl (by decide) rfl) (by decide) (Nat.le_of_ble_eq_true rfl) rfl rfl ?_
  refine j_heap (gp_to (j := 15) (L' := cx_141) rfl (by decide) rfl rfl) ?_
  refine j_aload_n (pc' := 35) rfl rfl rfl ?_
  refine j_bipush (v := 6) (pc' := 37) rfl rfl (by decide) ?_
  refine j_newa_int (pc' := 39) (key := 20) (N := 6) rfl rfl ka_int (by decide) (by decide) (by decide) (gp_k (j := 20) rfl (by decide) rfl) (by decide) (Nat.le_of_ble_eq_true rfl) (Nat.le_of_ble_eq_true rfl) ?_
  refine j_cs (c' := 5) (s' := 36) rfl rfl ?_
  refine j_heap (gp_to (j := 20) (L' := cx_142) rfl (by decide) rfl rfl) ?_
  refine j_putF (pc' := 42) rfl rfl flX0_24 rfl rfl (gp_k (j := 15) rfl (by decide) rfl) (by decide) (Nat.le_of_ble_eq_true rfl) rfl rfl ?_
  refine j_heap (gp_to (j := 15) (L' := cx_143) rfl (by decide) rfl rfl) ?_
  refine j_aload_n (pc' := 43) rfl rfl rfl ?_
  refine j_iconst (v := 3) (pc' := 44) rfl rfl (by decide) ?_
  refine j_newa_int (pc' := 46) (key := 21) (N := 3) rfl rfl ka_int (by decide) (by decide) (by decide) (gp_k (j := 21) rfl (by decide) rfl) (by decide) (Nat.le_of_ble_eq_true rfl) (Nat.le_of_ble_eq_true rfl) ?_
  refine j_cs (c' := 6) (s' := 39) rfl rfl ?_
  refine j_heap (gp_to (j := 21) (L' := cx_144) rfl (by decide) rfl rfl) ?_
  refine j_putF (pc' := 49) rfl rfl flX0_27 rfl rfl (gp_k (j := 15) rfl (by decide) rfl) (by decide) (Nat.le_of_ble_eq_true rfl) rfl rfl ?_
  refine j_heap (gp_to (j := 15) (L' := cx_145) rfl (by decide) rfl rfl) ?_
  refine j_aload_n (pc' := 50) rfl rfl rfl ?_
  refine j_bipush (v := 6) (pc' := 52) rfl rfl (by decide) ?_
  refine j_newa_int (pc' := 54) (key := 22) (N := 6) rfl rfl ka_int (by decide) (by decide) (by decide) (gp_k (j := 22) rfl (by decide) rfl) (by decide) (Nat.le_of_ble_eq_true rfl) (Nat.le_of_ble_eq_true rfl) ?_
  refine j_cs (c' := 7) (s' := 45) rfl rfl ?_
  refine j_heap (gp_to (j := 22) (L' := cx_146) rfl (by decide) rfl rfl) ?_
  refine j_putF (pc' := 57) rfl rfl flX0_30 rfl rfl (gp_k (j := 15) rfl (by decide) rfl) (by decide) (Nat.le_of_ble_eq_true rfl) rfl rfl ?_
  refine j_heap (gp_to (j := 15) (L' := cx_147) rfl (by decide) rfl rfl) ?_
  exact j_vret rfl rfl (Nat.le_of_ble_eq_true rfl) (Nat.le_of_ble_eq_true rfl) ⟨rfl, rfl⟩
def rX3_init_k23 : Room := { frames := 1, cells := 0, slots := 0, locals := 20 }
set_option maxHeartbeats 4000000 in
set_option maxRecDepth 100000 in
theorem s_X3_init_k23 (g : hH) : SpD mX3_init rX3_init_k23 [.ref 23] (gp 0 26 g cx_150) none (gp 0 26 g cx_151) := by
  refine sp_of miX3_init (Nat.le_of_ble_eq_true rfl) ?_
  show J _ _ _ 0 0 _ 0 [(0, .ref 23)] []
  refine j_aload_n (pc' := 1) rfl rfl rfl ?_
  refine j_objInit (pc' := 4) rfl rfl koX3 ko_i ko_c ⟨(Nat.le_of_ble_eq_true rfl), (Nat.le_of_ble_eq_true rfl)⟩ ?_
  refine j_aload_n (pc' := 5) rfl rfl rfl ?_
  refine j_ldc (pc' := 7) rfl rfl kcX3_9 ?_
  refine j_put (pc' := 10) rfl rfl flX3_10 (gp_k (j := 23) rfl (by decide) rfl) (by decide) (Nat.le_of_ble_eq_true rfl) rfl rfl ?_
  refine j_heap (gp_to (j := 23) (L' := cx_151) rfl (by decide) rfl rfl) ?_
  exact j_vret rfl rfl (Nat.le_of_ble_eq_true rfl) (Nat.le_of_ble_eq_true rfl) ⟨rfl, rfl⟩
def rX3_init_k24 : Room := { frames := 1, cells := 0, slots := 0, locals := 20 }
set_option maxHeartbeats 4000000 in
set_option maxRecDepth 100000 in
theorem s_X3_init_k24 (g : hH) : SpD mX3_init rX3_init_k24 [.ref 24] (gp 0 26 g cx_153) none (gp 0 26 g cx_154) := by
  refine sp_of miX3_init (Nat.le_of_ble_eq_true rfl) ?_
  show J _ _ _ 0 0 _ 0 [(0, .ref 24)] []
  refine j_aload_n (pc' := 1) rfl rfl rfl ?_
  refine j_objInit (pc' := 4) rfl rfl koX3 ko_i ko_c ⟨(Nat.le_of_ble_eq_true rfl), (Nat.le_of_ble_eq_true rfl)⟩ ?_
  refine j_aload_n (pc' := 5) rfl rfl rfl ?_
  refine j_ldc (pc' := 7) rfl rfl kcX3_9 ?_
  refine j_put (pc' := 10) rfl rfl flX3_10 (gp_k (j := 24) rfl (by decide) rfl) (by decide) (Nat.le_of_ble_eq_true rfl) rfl rfl ?_
  refine j_heap (gp_to (j := 24) (L' := cx_154) rfl (by decide) rfl rfl) ?_
  exact j_vret rfl rfl (Nat.le_of_ble_eq_true rfl) (Nat.le_of_ble_eq_true rfl) ⟨rfl, rfl⟩
def rX3_init_k25 : Room := { frames := 1, cells := 0, slots := 0, locals := 20 }
set_option maxHeartbeats 4000000 in
set_option maxRecDepth 100000 in
theorem s_X3_init_k25 (g : hH) : SpD mX3_init rX3_init_k25 [.ref 25] (gp 0 26 g cx_156) none (gp 0 26 g cx_157) := by
  refine sp_of miX3_init (Nat.le_of_ble_eq_true rfl) ?_
  show J _ _ _ 0 0 _ 0 [(0, .ref 25)] []
  refine j_aload_n (pc' := 1) rfl rfl rfl ?_
  refine j_objInit (pc' := 4) rfl rfl koX3 ko_i ko_c ⟨(Nat.le_of_ble_eq_true rfl), (Nat.le_of_ble_eq_true rfl)⟩ ?_
  refine j_aload_n (pc' := 5) rfl rfl rfl ?_
  refine j_ldc (pc' := 7) rfl rfl kcX3_9 ?_
  refine j_put (pc' := 10) rfl rfl flX3_10 (gp_k (j := 25) rfl (by decide) rfl) (by decide) (Nat.le_of_ble_eq_true rfl) rfl rfl ?_
  refine j_heap (gp_to (j := 25) (L' := cx_157) rfl (by decide) rfl rfl) ?_
  exact j_vret rfl rfl (Nat.le_of_ble_eq_true rfl) (Nat.le_of_ble_eq_true rfl) ⟨rfl, rfl⟩
def rX6_init_k0 : Room := { frames := 2, cells := 25, slots := 404, locals := 40 }
set_option maxHeartbeats 4000000 in
set_option maxRecDepth 100000 in
theorem s_X6_init_k0 (g : hH) : SpD mX6_init rX6_init_k0 [.ref 0] (gp 0 26 g cx_104) none (gp 0 26 g cx_158) := by
  refine sp_of miX6_init (Nat.le_of_ble_eq_true rfl) ?_
  show J _ _ _ 0 0 _ 0 [(0, .ref 0)] []
  refine j_aload_n (pc' := 1) rfl rfl rfl ?_
  refine j_objInit (pc' := 4) rfl rfl koX6 ko_i ko_c ⟨(Nat.le_of_ble_eq_true rfl), (Nat.le_of_ble_eq_true rfl)⟩ ?_
  refine j_aload_n (pc' := 5) rfl rfl rfl ?_
  refine j_bipush (v := 8) (pc' := 7) rfl rfl (by decide) ?_
  refine j_newq (pc' := 10) (key := 1) (N := 8) (C := RX4) rfl rfl klX6_9 (List.Mem.head _) (by decide) (by decide) (by decide) (gp_k (j := 1) rfl (by decide) rfl) (by decide) (Nat.le_of_ble_eq_true rfl) (Nat.le_of_ble_eq_true rfl) ?_
  refine j_cs (c' := 1) (s' := 8) rfl rfl ?_
  refine j_heap (gp_to (j := 1) (L' := cx_105) rfl (by decide) rfl rfl) ?_
  refine j_putF (pc' := 13) rfl rfl flX6_11 rfl rfl (gp_k (j := 0) rfl (by decide) rfl) (by decide) (Nat.le_of_ble_eq_true rfl) rfl rfl ?_
  refine j_heap (gp_to (j := 0) (L' := cx_106) rfl (by decide) rfl rfl) ?_
  refine j_aload_n (pc' := 14) rfl rfl rfl ?_
  refine j_bipush (v := 30) (pc' := 16) rfl rfl (by decide) ?_
  refine j_newq (pc' := 19) (key := 2) (N := 30) (C := RX1) rfl rfl klX6_15 (List.Mem.tail _ (List.Mem.head _)) (by decide) (by decide) (by decide) (gp_k (j := 2) rfl (by decide) rfl) (by decide) (Nat.le_of_ble_eq_true rfl) (Nat.le_of_ble_eq_true rfl) ?_
  refine j_cs (c' := 2) (s' := 38) rfl rfl ?_
  refine j_heap (gp_to (j := 2) (L' := cx_107) rfl (by decide) rfl rfl) ?_
  refine j_putF (pc' := 22) rfl rfl flX6_17 rfl rfl (gp_k (j := 0) rfl (by decide) rfl) (by decide) (Nat.le_of_ble_eq_true rfl) rfl rfl ?_
  refine j_heap (gp_to (j := 0) (L' := cx_108) rfl (by decide) rfl rfl) ?_
  refine j_aload_n (pc' := 23) rfl rfl rfl ?_
  refine j_bipush (v := 10) (pc' := 25) rfl rfl (by decide) ?_
  refine j_newq (pc' := 28) (key := 3) (N := 10) (C := RX2) rfl rfl klX6_21 (List.Mem.tail _ (List.Mem.tail _ (List.Mem.head _))) (by decide) (by decide) (by decide) (gp_k (j := 3) rfl (by decide) rfl) (by decide) (Nat.le_of_ble_eq_true rfl) (Nat.le_of_ble_eq_true rfl) ?_
  refine j_cs (c' := 3) (s' := 48) rfl rfl ?_
  refine j_heap (gp_to (j := 3) (L' := cx_109) rfl (by decide) rfl rfl) ?_
  refine j_putF (pc' := 31) rfl rfl flX6_23 rfl rfl (gp_k (j := 0) rfl (by decide) rfl) (by decide) (Nat.le_of_ble_eq_true rfl) rfl rfl ?_
  refine j_heap (gp_to (j := 0) (L' := cx_110) rfl (by decide) rfl rfl) ?_
  refine j_aload_n (pc' := 32) rfl rfl rfl ?_
  refine j_new (pc' := 35) (key := 11) (ci := 5) (fs := dfX5) rfl rfl klX6_27 rfl dfX5_ok (by decide) (gp_k (j := 11) rfl (by decide) rfl) (by decide) (Nat.le_of_ble_eq_true rfl) (Nat.le_of_ble_eq_true rfl) ?_
  refine j_cs (c' := 4) (s' := 53) rfl rfl ?_
  refine j_heap (gp_to (j := 11) (L' := cx_111) rfl (by decide) rfl rfl) ?_
  refine j_dup (pc' := 36) rfl rfl rfl ?_
  refine j_in0 (pc' := 39) rfl rfl miX5_init rfl lnX6_29 (s_X5_init_k11 g) (h_rm_of rfl) (Nat.le_of_ble_eq_true rfl) (c' := 7) (s' := 229) rfl rfl ?_
  refine j_putF (pc' := 42) rfl rfl flX6_30 rfl rfl (gp_k (j := 0) rfl (by decide) rfl) (by decide) (Nat.le_of_ble_eq_true rfl) rfl rfl ?_
  refine j_heap (gp_to (j := 0) (L' := cx_118) rfl (by decide) rfl rfl) ?_
  refine j_aload_n (pc' := 43) rfl rfl rfl ?_
  refine j_iconst (v := 3) (pc' := 44) rfl rfl (by decide) ?_
  refine j_newq (pc' := 47) (key := 4) (N := 3) (C := RX3) rfl rfl klX6_34 (List.Mem.tail _ (List.Mem.tail _ (List.Mem.tail _ (List.Mem.head _)))) (by decide) (by decide) (by decide) (gp_k (j := 4) rfl (by decide) rfl) (by decide) (Nat.le_of_ble_eq_true rfl) (Nat.le_of_ble_eq_true rfl) ?_
  refine j_cs (c' := 8) (s' := 232) rfl rfl ?_
  refine j_heap (gp_to (j := 4) (L' := cx_119) rfl (by decide) rfl rfl) ?_
  refine j_putF (pc' := 50) rfl rfl flX6_36 rfl rfl (gp_k (j := 0) rfl (by decide) rfl) (by decide) (Nat.le_of_ble_eq_true rfl) rfl rfl ?_
  refine j_heap (gp_to (j := 0) (L' := cx_120) rfl (by decide) rfl rfl) ?_
  refine j_aload_n (pc' := 51) rfl rfl rfl ?_
  refine j_bipush (v := 18) (pc' := 53) rfl rfl (by decide) ?_
  refine j_newa_int (pc' := 55) (key := 5) (N := 18) rfl rfl ka_int (by decide) (by decide) (by decide) (gp_k (j := 5) rfl (by decide) rfl) (by decide) (Nat.le_of_ble_eq_true rfl) (Nat.le_of_ble_eq_true rfl) ?_
  refine j_cs (c' := 9) (s' := 250) rfl rfl ?_
  refine j_heap (gp_to (j := 5) (L' := cx_121) rfl (by decide) rfl rfl) ?_
  refine j_putF (pc' := 58) rfl rfl flX6_40 rfl rfl (gp_k (j := 0) rfl (by decide) rfl) (by decide) (Nat.le_of_ble_eq_true rfl) rfl rfl ?_
  refine j_heap (gp_to (j := 0) (L' := cx_122) rfl (by decide) rfl rfl) ?_
  refine j_aload_n (pc' := 59) rfl rfl rfl ?_
  refine j_bipush (v := 6) (pc' := 61) rfl rfl (by decide) ?_
  refine j_newa_long (pc' := 63) (key := 6) (N := 6) rfl rfl ka_long (by decide) (by decide) (by decide) (gp_k (j := 6) rfl (by decide) rfl) (by decide) (Nat.le_of_ble_eq_true rfl) (Nat.le_of_ble_eq_true rfl) ?_
  refine j_cs (c' := 10) (s' := 256) rfl rfl ?_
  refine j_heap (gp_to (j := 6) (L' := cx_123) rfl (by decide) rfl rfl) ?_
  refine j_putF (pc' := 66) rfl rfl flX6_44 rfl rfl (gp_k (j := 0) rfl (by decide) rfl) (by decide) (Nat.le_of_ble_eq_true rfl) rfl rfl ?_
  refine j_heap (gp_to (j := 0) (L' := cx_124) rfl (by decide) rfl rfl) ?_
  refine j_aload_n (pc' := 67) rfl rfl rfl ?_
  refine j_bipush (v := 30) (pc' := 69) rfl rfl (by decide) ?_
  refine j_newa_int (pc' := 71) (key := 7) (N := 30) rfl rfl ka_int (by decide) (by decide) (by decide) (gp_k (j := 7) rfl (by decide) rfl) (by decide) (Nat.le_of_ble_eq_true rfl) (Nat.le_of_ble_eq_true rfl) ?_
  refine j_cs (c' := 11) (s' := 286) rfl rfl ?_
  refine j_heap (gp_to (j := 7) (L' := cx_125) rfl (by decide) rfl rfl) ?_
  refine j_putF (pc' := 74) rfl rfl flX6_48 rfl rfl (gp_k (j := 0) rfl (by decide) rfl) (by decide) (Nat.le_of_ble_eq_true rfl) rfl rfl ?_
  refine j_heap (gp_to (j := 0) (L' := cx_126) rfl (by decide) rfl rfl) ?_
  refine j_aload_n (pc' := 75) rfl rfl rfl ?_
  refine j_bipush (v := 30) (pc' := 77) rfl rfl (by decide) ?_
  refine j_newa_int (pc' := 79) (key := 8) (N := 30) rfl rfl ka_int (by decide) (by decide) (by decide) (gp_k (j := 8) rfl (by decide) rfl) (by decide) (Nat.le_of_ble_eq_true rfl) (Nat.le_of_ble_eq_true rfl) ?_
  refine j_cs (c' := 12) (s' := 316) rfl rfl ?_
  refine j_heap (gp_to (j := 8) (L' := cx_127) rfl (by decide) rfl rfl) ?_
  refine j_putF (pc' := 82) rfl rfl flX6_51 rfl rfl (gp_k (j := 0) rfl (by decide) rfl) (by decide) (Nat.le_of_ble_eq_true rfl) rfl rfl ?_
  refine j_heap (gp_to (j := 0) (L' := cx_128) rfl (by decide) rfl rfl) ?_
  refine j_aload_n (pc' := 83) rfl rfl rfl ?_
  refine j_iconst (v := 3) (pc' := 84) rfl rfl (by decide) ?_
  refine j_newa_int (pc' := 86) (key := 9) (N := 3) rfl rfl ka_int (by decide) (by decide) (by decide) (gp_k (j := 9) rfl (by decide) rfl) (by decide) (Nat.le_of_ble_eq_true rfl) (Nat.le_of_ble_eq_true rfl) ?_
  refine j_cs (c' := 13) (s' := 319) rfl rfl ?_
  refine j_heap (gp_to (j := 9) (L' := cx_129) rfl (by decide) rfl rfl) ?_
  refine j_putF (pc' := 89) rfl rfl flX6_54 rfl rfl (gp_k (j := 0) rfl (by decide) rfl) (by decide) (Nat.le_of_ble_eq_true rfl) rfl rfl ?_
  refine j_heap (gp_to (j := 0) (L' := cx_130) rfl (by decide) rfl rfl) ?_
  refine j_aload_n (pc' := 90) rfl rfl rfl ?_
  refine j_bipush (v := 6) (pc' := 92) rfl rfl (by decide) ?_
  refine j_newa_int (pc' := 94) (key := 10) (N := 6) rfl rfl ka_int (by decide) (by decide) (by decide) (gp_k (j := 10) rfl (by decide) rfl) (by decide) (Nat.le_of_ble_eq_true rfl) (Nat.le_of_ble_eq_true rfl) ?_
  refine j_cs (c' := 14) (s' := 325) rfl rfl ?_
  refine j_heap (gp_to (j := 10) (L' := cx_131) rfl (by decide) rfl rfl) ?_
  refine j_putF (pc' := 97) rfl rfl flX6_57 rfl rfl (gp_k (j := 0) rfl (by decide) rfl) (by decide) (Nat.le_of_ble_eq_true rfl) rfl rfl ?_
  refine j_heap (gp_to (j := 0) (L' := cx_132) rfl (by decide) rfl rfl) ?_
  refine j_aload_n (pc' := 98) rfl rfl rfl ?_
  refine j_new (pc' := 101) (key := 15) (ci := 0) (fs := dfX0) rfl rfl klX6_60 rfl dfX0_ok (by decide) (gp_k (j := 15) rfl (by decide) rfl) (by decide) (Nat.le_of_ble_eq_true rfl) (Nat.le_of_ble_eq_true rfl) ?_
  refine j_cs (c' := 15) (s' := 332) rfl rfl ?_
  refine j_heap (gp_to (j := 15) (L' := cx_133) rfl (by decide) rfl rfl) ?_
  refine j_dup (pc' := 102) rfl rfl rfl ?_
  refine j_in0 (pc' := 105) rfl rfl miX0_init rfl lnX6_62 (s_X0_init_k15 g) (h_rm_of rfl) (Nat.le_of_ble_eq_true rfl) (c' := 22) (s' := 377) rfl rfl ?_
  refine j_putF (pc' := 108) rfl rfl flX6_63 rfl rfl (gp_k (j := 0) rfl (by decide) rfl) (by decide) (Nat.le_of_ble_eq_true rfl) rfl rfl ?_
  refine j_heap (gp_to (j := 0) (L' := cx_148) rfl (by decide) rfl rfl) ?_
  refine j_aload_n (pc' := 109) rfl rfl rfl ?_
  refine j_get (pc' := 112) (v := .ref 5) rfl rfl flX6_40 (gp_k (j := 0) rfl (by decide) rfl) rfl ?_
  refine j_iconst (v := 5) (pc' := 113) rfl rfl (by decide) ?_
  refine j_sw2 (pc' := 116) rfl rfl miJ7_fill_53178 lnX6_67 (s_fill (gp_k (j := 5) rfl (by decide) rfl) (by decide) (by decide) 5) (h_rm_of rfl) (Nat.le_of_ble_eq_true rfl) (c' := 22) (s' := 377) rfl rfl ?_
  refine j_heap (gp_to (j := 5) (L' := cx_149) rfl (by decide) rfl rfl) ?_
  refine j_iconst (v := 0) (pc' := 117) rfl rfl (by decide) ?_
  refine j_istore_n (pc' := 118) (ls' := [(1, _), (0, _)]) rfl rfl (Nat.le_of_ble_eq_true rfl) rfl ?_
  refine j_iload_n (pc' := 119) rfl rfl rfl ?_
  refine j_iconst (v := 3) (pc' := 120) rfl rfl (by decide) ?_
  refine j_icmp_ge (tgt := 142) (pc' := 123) rfl rfl rfl (fun c => absurd c (by decide)) (fun _ => ?_)
  refine j_aload_n (pc' := 124) rfl rfl rfl ?_
  refine j_get (pc' := 127) (v := .ref 4) rfl rfl flX6_36 (gp_k (j := 0) rfl (by decide) rfl) rfl ?_
  refine j_iload_n (pc' := 128) rfl rfl rfl ?_
  refine j_new (pc' := 131) (key := 23) (ci := 3) (fs := dfX3) rfl rfl klX6_34 rfl dfX3_ok (by decide) (gp_k (j := 23) rfl (by decide) rfl) (by decide) (Nat.le_of_ble_eq_true rfl) (Nat.le_of_ble_eq_true rfl) ?_
  refine j_cs (c' := 23) (s' := 386) rfl rfl ?_
  refine j_heap (gp_to (j := 23) (L' := cx_150) rfl (by decide) rfl rfl) ?_
  refine j_dup (pc' := 132) rfl rfl rfl ?_
  refine j_in0 (pc' := 135) rfl rfl miX3_init rfl lnX6_73 (s_X3_init_k23 g) (h_rm_of rfl) (Nat.le_of_ble_eq_true rfl) (c' := 23) (s' := 386) rfl rfl ?_
  refine j_aast (pc' := 136) (ci := 3) (r := (RX3, TX3, 9)) rfl rfl (List.Mem.tail _ (List.Mem.tail _ (List.Mem.tail _ (List.Mem.head _)))) (gp_k (j := 4) rfl (by decide) rfl) (by decide) (vin_ok (by decide)) (gp_k (j := 23) rfl (by decide) rfl) rfl ?_
  refine j_heap (gp_to (j := 4) (L' := cx_152) rfl (by decide) rfl rfl) ?_
  refine j_iinc (pc' := 139) (d := 1) (ls' := [(1, _), (0, _)]) rfl rfl rfl (by decide) (Nat.le_of_ble_eq_true rfl) rfl ?_
  refine j_goto (tgt := 118) rfl rfl ?_
  refine j_iload_n (pc' := 119) rfl rfl rfl ?_
  refine j_iconst (v := 3) (pc' := 120) rfl rfl (by decide) ?_
  refine j_icmp_ge (tgt := 142) (pc' := 123) rfl rfl rfl (fun c => absurd c (by decide)) (fun _ => ?_)
  refine j_aload_n (pc' := 124) rfl rfl rfl ?_
  refine j_get (pc' := 127) (v := .ref 4) rfl rfl flX6_36 (gp_k (j := 0) rfl (by decide) rfl) rfl ?_
  refine j_iload_n (pc' := 128) rfl rfl rfl ?_
  refine j_new (pc' := 131) (key := 24) (ci := 3) (fs := dfX3) rfl rfl klX6_34 rfl dfX3_ok (by decide) (gp_k (j := 24) rfl (by decide) rfl) (by decide) (Nat.le_of_ble_eq_true rfl) (Nat.le_of_ble_eq_true rfl) ?_
  refine j_cs (c' := 24) (s' := 395) rfl rfl ?_
  refine j_heap (gp_to (j := 24) (L' := cx_153) rfl (by decide) rfl rfl) ?_
  refine j_dup (pc' := 132) rfl rfl rfl ?_
  refine j_in0 (pc' := 135) rfl rfl miX3_init rfl lnX6_73 (s_X3_init_k24 g) (h_rm_of rfl) (Nat.le_of_ble_eq_true rfl) (c' := 24) (s' := 395) rfl rfl ?_
  refine j_aast (pc' := 136) (ci := 3) (r := (RX3, TX3, 9)) rfl rfl (List.Mem.tail _ (List.Mem.tail _ (List.Mem.tail _ (List.Mem.head _)))) (gp_k (j := 4) rfl (by decide) rfl) (by decide) (vin_ok (by decide)) (gp_k (j := 24) rfl (by decide) rfl) rfl ?_
  refine j_heap (gp_to (j := 4) (L' := cx_155) rfl (by decide) rfl rfl) ?_
  refine j_iinc (pc' := 139) (d := 1) (ls' := [(1, _), (0, _)]) rfl rfl rfl (by decide) (Nat.le_of_ble_eq_true rfl) rfl ?_
  refine j_goto (tgt := 118) rfl rfl ?_
  refine j_iload_n (pc' := 119) rfl rfl rfl ?_
  refine j_iconst (v := 3) (pc' := 120) rfl rfl (by decide) ?_
  refine j_icmp_ge (tgt := 142) (pc' := 123) rfl rfl rfl (fun c => absurd c (by decide)) (fun _ => ?_)
  refine j_aload_n (pc' := 124) rfl rfl rfl ?_
  refine j_get (pc' := 127) (v := .ref 4) rfl rfl flX6_36 (gp_k (j := 0) rfl (by decide) rfl) rfl ?_
  refine j_iload_n (pc' := 128) rfl rfl rfl ?_
  refine j_new (pc' := 131) (key := 25) (ci := 3) (fs := dfX3) rfl rfl klX6_34 rfl dfX3_ok (by decide) (gp_k (j := 25) rfl (by decide) rfl) (by decide) (Nat.le_of_ble_eq_true rfl) (Nat.le_of_ble_eq_true rfl) ?_
  refine j_cs (c' := 25) (s' := 404) rfl rfl ?_
  refine j_heap (gp_to (j := 25) (L' := cx_156) rfl (by decide) rfl rfl) ?_
  refine j_dup (pc' := 132) rfl rfl rfl ?_
  refine j_in0 (pc' := 135) rfl rfl miX3_init rfl lnX6_73 (s_X3_init_k25 g) (h_rm_of rfl) (Nat.le_of_ble_eq_true rfl) (c' := 25) (s' := 404) rfl rfl ?_
  refine j_aast (pc' := 136) (ci := 3) (r := (RX3, TX3, 9)) rfl rfl (List.Mem.tail _ (List.Mem.tail _ (List.Mem.tail _ (List.Mem.head _)))) (gp_k (j := 4) rfl (by decide) rfl) (by decide) (vin_ok (by decide)) (gp_k (j := 25) rfl (by decide) rfl) rfl ?_
  refine j_heap (gp_to (j := 4) (L' := cx_158) rfl (by decide) rfl rfl) ?_
  refine j_iinc (pc' := 139) (d := 1) (ls' := [(1, _), (0, _)]) rfl rfl rfl (by decide) (Nat.le_of_ble_eq_true rfl) rfl ?_
  refine j_goto (tgt := 118) rfl rfl ?_
  refine j_iload_n (pc' := 119) rfl rfl rfl ?_
  refine j_iconst (v := 3) (pc' := 120) rfl rfl (by decide) ?_
  refine j_icmp_ge (tgt := 142) (pc' := 123) rfl rfl rfl (fun _ => ?_) (fun c => absurd c (by decide))
  exact j_vret rfl rfl (Nat.le_of_ble_eq_true rfl) (Nat.le_of_ble_eq_true rfl) ⟨rfl, rfl⟩
def σ0 : xS := (fun k => if k = 8 then (fillf 18 5 (fun _ => 0)) else if k = 146 then fun _ => 100000 else fun _ => 0, fun _ _ => 0, fun k => if k = 7 then (va_up (va_up (va_up (fun _ => none) (Int32.toNatClampNeg 0) (some 23)) (Int32.toNatClampNeg (0 + 1)) (some 24)) (Int32.toNatClampNeg ((0 + 1) + 1)) (some 25)) else fun _ => none, fun _ => 0)
theorem gp_gx {g : hH} {σ : xS} (hc : ∀ j, σ.2.2.2 j = 0) (hg : ∀ k, 26 ≤ k → k < 3800 → g k = none) : gp 0 26 g (xL σ) = gx g σ := by
  funext key
  unfold gp
  by_cases h : key < 26
  · rw [if_pos (by omega), gx_lo (by omega), Nat.sub_zero]
  · rw [if_neg (by omega)]
    by_cases q1 : key < 1000
    · rw [gx_lo q1, hg key (by omega) (by omega)]
      have : ∀ (l : List (Option hE)) (i : Nat), l.length ≤ i → nth l i = none := by
        intro l
        induction l with
        | nil => intro i _; rfl
        | cons a l ih =>
          intro i hi
          cases i with
          | zero => exact absurd hi (by simp)
          | succ i => exact ih i (by simpa using hi)
      exact (this _ _ (by rw [xL_len]; omega)).symm
    by_cases q2 : key < 2000
    · rw [gx_1 (by omega) q2, hc, if_neg (by omega), hg key (by omega) (by omega)]
    by_cases q3 : key < 3000
    · rw [gx_2 (by omega) q3, hc, if_neg (by omega), hg key (by omega) (by omega)]
    by_cases q4 : key < 3200
    · rw [gx_3 (by omega) q4, hc, if_neg (by omega), hg key (by omega) (by omega)]
    by_cases q5 : key < 3400
    · rw [gx_4 (by omega) q5, hc, if_neg (by omega), hg key (by omega) (by omega)]
    by_cases q6 : key < 3600
    · rw [gx_5 (by omega) q6, hc, if_neg (by omega), hg key (by omega) (by omega)]
    by_cases q7 : key < 3800
    · rw [gx_6 (by omega) q7, hc, if_neg (by omega), hg key (by omega) (by omega)]
    · rw [gx_g (by omega)]
theorem cx_end : cx_158 = xL σ0 := rfl
theorem s_class_init {g : hH} (hg : ∀ k, 26 ≤ k → k < 3800 → g k = none) : SpD mX6_init rX6_init_k0 [.ref 0] (gp 0 26 g cx_104) none (gx g σ0) := by
  have := s_X6_init_k0 g
  rw [cx_end, gp_gx (fun _ => rfl) hg] at this
  exact this
end CTORX
