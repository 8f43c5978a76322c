"""Changes CodeLifter.java in one place at a time and tells which changes no test notices.

From the project's root: [ONLY=TextBoundsTest,..] python3 src/test/oracle/mutants.py [JOBS] > survivors.txt
It needs javac and java, and some twenty minutes with eight JOBS."""
import glob
import os
import re
import shutil
import subprocess
import sys
import tempfile
from concurrent.futures import ThreadPoolExecutor

SOURCE = 'src/main/java/CodeLifter.java'
RULES = [
    (r' < ', [' <= ', ' >= ']), (r' <= ', [' < ']), (r' > ', [' >= ']), (r' >= ', [' > ']),
    (r' == ', [' != ']), (r' != ', [' == ']), (r' && ', [' || ']), (r' \|\| ', [' && ']),
    (r' \+ ', [' - ']), (r' - ', [' + ']), (r'\+\+', ['--']), (r'--', ['++']),
    (r'\btrue\b', ['false']), (r'\bfalse\b', ['true']), (r' & ', [' | ']), (r' \| ', [' & ']), (r'\|= ', ['= ', '&= ']),
    (r'(?<![\w.])(\d+)(?![\w.])', ['+1', '-1']), (r'Math\.max', ['Math.min']), (r'Math\.min', ['Math.max']),
    (r'!(?=[a-zA-Z])', ['']), (r'\bNONE\b', ['0']), (r'\bHIDDEN\b', ['NONE']), (r'\bbreak;', [';']),
]

def mutants(lines):
    for n, line in enumerate(lines):
        bare = line.strip()
        if not bare or bare.startswith(('/**', '*', '//', 'import', 'public static final')):
            continue
        for pattern, replacements in RULES:
            for m in re.finditer(pattern, line):
                inside = line[:m.start()].count('"') % 2 == 1 or line[:m.start()].count("'") % 2 == 1
                if inside:
                    continue
                for r in replacements:
                    if r in ('+1', '-1'):
                        r = str(int(m.group(1)) + int(r))
                    yield n, line[:m.start()] + r + line[m.end():]
        if re.match(r'^\s+[\w.\[\]+\- ]+(\(.*\)|=.*|\+\+|--|=.*);$', line) and not re.match(r'^\s+(private|final|int|long|boolean|return|static)\b', line):
            yield n, re.match(r'^\s+', line).group(0) + ';'
        for m in re.finditer(r'case [^:]+: (?=[a-z])', line):
            if 'return' not in line:
                yield n, line[:m.end()] + 'break; // ' + line[m.end():]

def main():
    jobs = int(sys.argv[1]) if len(sys.argv) > 1 else 8
    lines = open(SOURCE).read().split('\n')
    work = tempfile.mkdtemp()
    own = os.path.join(work, 'tests')
    os.mkdir(own)
    subprocess.check_call(['javac', '-d', own, SOURCE] + glob.glob('src/test/java/*.java') + glob.glob('../shared/tests/*.java'))
    for f in glob.glob(own + '/CodeLifter.class') + glob.glob(own + '/CodeLifter$*.class'):
        os.remove(f)
    tests = sorted(os.path.basename(f)[:-5] for f in glob.glob('src/test/java/*Test.java'))
    tests = [t for t in tests if t != 'SourceRulesTest'] + ['CodeLifterRuns']
    only = os.environ.get('ONLY')
    tests = only.split(',') if only else tests

    def attempt(job):
        k, (n, changed) = job
        place = os.path.join(work, str(k))
        os.mkdir(place)
        try:
            path = os.path.join(place, 'CodeLifter.java')
            open(path, 'w').write('\n'.join(lines[:n] + [changed] + lines[n + 1:]))
            if subprocess.call(['javac', '-J-XX:TieredStopAtLevel=1', '-d', place, path], stdout=subprocess.DEVNULL, stderr=subprocess.DEVNULL):
                return None
            for t in tests:
                try:
                    if subprocess.call(['java', '-XX:TieredStopAtLevel=1', '-XX:+UseSerialGC', '-cp', place + ':' + own, t], stdout=subprocess.DEVNULL, stderr=subprocess.DEVNULL, timeout=60):
                        return t
                except subprocess.TimeoutExpired:
                    return t + ' (time)'
            return ''
        finally:
            shutil.rmtree(place)

    found = list(enumerate(mutants(lines)))
    alive = 0
    with ThreadPoolExecutor(jobs) as pool:
        for (k, (n, changed)), killer in zip(found, pool.map(attempt, found)):
            if killer == '':
                alive += 1
                print(f'{n + 1}: {lines[n].strip()}\n   -> {changed.strip()}', flush=True)
    print(f'{len(found)} changes, {alive} not noticed', flush=True)
    shutil.rmtree(work)

main()
